set_option maxHeartbeats 4000000 in
set_option maxRecDepth 100000 in
theorem c_X12_step {l : Launch} {D : va_G} {cs : Nat → ClassId} {ad : Nat → Nat} {N : List Nat} {Z : State → Prop} (hZ : ha_Zok (ha_A ad N) Z) (hN : ∀ x, mo_kd x < 999 → x ∈ N) {p0 : Nat} {p1 : Int32} {S : ha_St} {out : ha_St} (h0 : mo_kd p0 = 12) (hf : f_X12_step p0 p1 S = some out) : ha_Cv l D cs ad mo_kd mo_ln N Z yX12_step wsX12_step ({ frames := 3, cells := 0, slots := 0, locals := 73 } : Room) [.ref (ad p0), .int p1] S out := by
  refine Met.ofW (cc := cX12_step) (maxL := 3) (ret := none) (by decide +kernel) rfl ?_
  intro p e s m args below meth c s₁ B hml hv
  obtain ⟨rfl, hP, hD, hK, hz⟩ := hv
  have hx := B.exec
  have hb := B.bytes
  have hr := B.returns
  have hts := atoms_spec (ws := wsX12_step) B.pre
  have hown : s.vm.findClass RX12 = some m.cls := findClass_of_methodNamed B.named
  have hlocks := B.notSynchronized
  have hS : va_S (ha_A ad N) s.heap s.heap [] := va_S.rf
  have hi12 : ∀ w ∈ wsX120, w ∈ wsX12_step := fun w h => List.mem_cons_of_mem _ (List.mem_append_right _ h)
  have q292 : ha_Fk s ([.ref (ad p0), .int p1] : List Value).toArray RX12 292 12 40 0 := ⟨RX12, TX12, 83, wsX12_step, rfl, by decide, by decide, rfl, rfl, hts, hi12, hts (.fieldLink RX12 292 "HillArmsModel" "hasChanged" "Z") (by decide +kernel)⟩
  have q13 : ha_Fk s ([.ref (ad p0), .int p1] : List Value).toArray RX12 13 12 4 0 := ⟨RX12, TX12, 83, wsX12_step, rfl, by decide, by decide, rfl, rfl, hts, hi12, hts (.fieldLink RX12 13 "HillArmsModel" "n" "I") (by decide +kernel)⟩
  have q62 : ha_Fk s ([.ref (ad p0), .int p1] : List Value).toArray RX12 62 12 34 1 := ⟨RX12, TX12, 83, wsX12_step, rfl, by decide, by decide, rfl, rfl, hts, hi12, hts (.fieldLink RX12 62 "HillArmsModel" "cells" "[I") (by decide +kernel)⟩
  have q71 : ha_Fk s ([.ref (ad p0), .int p1] : List Value).toArray RX12 71 12 47 1 := ⟨RX12, TX12, 83, wsX12_step, rfl, by decide, by decide, rfl, rfl, hts, hi12, hts (.fieldLink RX12 71 "HillArmsModel" "had" "[I") (by decide +kernel)⟩
  have q65 : ha_Fk s ([.ref (ad p0), .int p1] : List Value).toArray RX12 65 12 35 1 := ⟨RX12, TX12, 83, wsX12_step, rfl, by decide, by decide, rfl, rfl, hts, hi12, hts (.fieldLink RX12 65 "HillArmsModel" "times" "[I") (by decide +kernel)⟩
  have q56 : ha_Fk s ([.ref (ad p0), .int p1] : List Value).toArray RX12 56 12 32 1 := ⟨RX12, TX12, 83, wsX12_step, rfl, by decide, by decide, rfl, rfl, hts, hi12, hts (.fieldLink RX12 56 "HillArmsModel" "now" "[I") (by decide +kernel)⟩
  have q59 : ha_Fk s ([.ref (ad p0), .int p1] : List Value).toArray RX12 59 12 33 1 := ⟨RX12, TX12, 83, wsX12_step, rfl, by decide, by decide, rfl, rfl, hts, hi12, hts (.fieldLink RX12 59 "HillArmsModel" "ahead" "[I") (by decide +kernel)⟩
  have r314 : ha_Fp s ([.ref (ad p0), .int p1] : List Value).toArray RX12 314 12 39 0 .int := ⟨RX12, TX12, 83, wsX12_step, tyX12, rfl, by decide, by decide, rfl, rfl, hts, hi12, hts (.fieldLink RX12 314 "HillArmsModel" "still" "I") (by decide +kernel), tyX12_ok, nmX12, rfl, by decide +kernel⟩
  have r292 : ha_Fp s ([.ref (ad p0), .int p1] : List Value).toArray RX12 292 12 40 0 .boolean := ⟨RX12, TX12, 83, wsX12_step, tyX12, rfl, by decide, by decide, rfl, rfl, hts, hi12, hts (.fieldLink RX12 292 "HillArmsModel" "hasChanged" "Z") (by decide +kernel), tyX12_ok, nmX12, rfl, by decide +kernel⟩
  have cw0 := cwV (R := (headSpec wsX12_step ({ frames := 3, cells := 0, slots := 0, locals := 73 } : Room)).room) 3 hts gX12_step_X12_doRule (rm := ({ frames := 2, cells := 0, slots := 0, locals := 46 } : Room)) (mc := 0) (ms := 0) rfl rfl rfl (by decide +kernel) ⟨Nat.le_of_ble_eq_true rfl, Nat.le_of_ble_eq_true rfl⟩
  have hl := lv_entry ([.ref (ad p0), .int p1]) (n := 3) (Nat.le_of_ble_eq_true rfl)
  rw [lg_entry_eq]
  generalize (lg_sl ([.ref (ad p0), .int p1]) ++ List.replicate (3 - (lg_sl ([.ref (ad p0), .int p1])).length) Slot.unset).toArray = ls at hl ⊢
  have hl : lv_has ls 3 [(0, .ref (ad p0)), (1, .int p1)] := hl
  refine (fun (K0 : ∀ (H : Heap) (locs : List Loc), va_P D vwCl (ha_wl cs ad mo_kd mo_ln N S) H → va_S (ha_A ad N) s.heap H locs → W p l e (headSpec wsX12_step ({ frames := 3, cells := 0, slots := 0, locals := 73 } : Room)).room s m ([.ref (ad p0), .int p1] : List Value).toArray below meth c H locs 0 0 (MQ below (va_Qv (fun (_ : Unit) => True) (fun _ => ha_H D cs ad mo_kd mo_ln N out) (ha_A ad N)) ([.ref (ad p0), .int p1] : List Value).toArray s 0 0 (ha_A ad N)) (F0 m 0 ls [])) => K0 _ _ hP hS) ?_
  intro H locs hP hS
  have hf := ha_rt hf
  have J243 : ∀  (S : ha_St) (H : Heap) (locs : List Loc) (ls : Array Slot), (f_X12_step_J243 p0 p1  S).bind some = some out → va_P D vwCl (ha_wl cs ad mo_kd mo_ln N S) H → va_D (ha_A ad N) (ha_wl cs ad mo_kd mo_ln N S) → va_S (ha_A ad N) s.heap H locs → lv_has ls 3 [(0, .ref (ad p0)), (1, .int p1)] → W p l e (headSpec wsX12_step ({ frames := 3, cells := 0, slots := 0, locals := 73 } : Room)).room s m ([.ref (ad p0), .int p1] : List Value).toArray below meth c H locs 0 0 (MQ below (va_Qv (fun (_ : Unit) => True) (fun _ => ha_H D cs ad mo_kd mo_ln N out) (ha_A ad N)) ([.ref (ad p0), .int p1] : List Value).toArray s 0 0 (ha_A ad N)) (F0 m 243 ls []) := by
    intro  S H locs ls hf  hP hD hS hl
    unfold f_X12_step_J243 at hf
    have he := Option.some.inj hf
    exact ha_retv hx hb hr hlocks hP hD hS dX12_step_243 he
  have J231 : ∀  (S : ha_St) (H : Heap) (locs : List Loc) (ls : Array Slot), (f_X12_step_J231 p0 p1  S).bind some = some out → va_P D vwCl (ha_wl cs ad mo_kd mo_ln N S) H → va_D (ha_A ad N) (ha_wl cs ad mo_kd mo_ln N S) → va_S (ha_A ad N) s.heap H locs → lv_has ls 3 [(0, .ref (ad p0)), (1, .int p1)] → W p l e (headSpec wsX12_step ({ frames := 3, cells := 0, slots := 0, locals := 73 } : Room)).room s m ([.ref (ad p0), .int p1] : List Value).toArray below meth c H locs 0 0 (MQ below (va_Qv (fun (_ : Unit) => True) (fun _ => ha_H D cs ad mo_kd mo_ln N out) (ha_A ad N)) ([.ref (ad p0), .int p1] : List Value).toArray s 0 0 (ha_A ad N)) (F0 m 231 ls []) := by
    intro  S H locs ls hf  hP hD hS hl
    unfold f_X12_step_J231 at hf
    refine lv_aload_n hx hb dX12_step_231 rfl (lv_at hl 0 rfl) ?_
    refine ha_geti hx hb hown hK hP q292 hN h0 dX12_step_232 ?_
    refine lv_if_eq (tgt := 243) hx hb dX12_step_235 (by decide) (fun c1 => ?_) (fun c1 => ?_)
    · have hf := ha_it hf c1
      exact J243  S H locs ls hf  hP hD hS (lv_sub hl [0, 1] rfl)
    · have hf := ha_if hf c1
      refine lv_aload_n hx hb dX12_step_238 rfl (lv_at hl 0 rfl) ?_
      refine lv_iload_n hx hb dX12_step_239 rfl (lv_at hl 1 rfl) ?_
      refine ha_puti hx hb hown hK hP hD hS r314 hN h0 dX12_step_240 (fun S2 H locs eS2 hP hD hS => ?_)
      have hf := ha_nms hf eS2
      exact J243  S2 H locs ls hf  hP hD hS (lv_sub hl [0, 1] rfl)
  have J193 : ∀  (S : ha_St) (H : Heap) (locs : List Loc) (ls : Array Slot), (f_X12_step_J193 p0 p1  S).bind some = some out → va_P D vwCl (ha_wl cs ad mo_kd mo_ln N S) H → va_D (ha_A ad N) (ha_wl cs ad mo_kd mo_ln N S) → va_S (ha_A ad N) s.heap H locs → lv_has ls 3 [(0, .ref (ad p0)), (1, .int p1)] → W p l e (headSpec wsX12_step ({ frames := 3, cells := 0, slots := 0, locals := 73 } : Room)).room s m ([.ref (ad p0), .int p1] : List Value).toArray below meth c H locs 0 0 (MQ below (va_Qv (fun (_ : Unit) => True) (fun _ => ha_H D cs ad mo_kd mo_ln N out) (ha_A ad N)) ([.ref (ad p0), .int p1] : List Value).toArray s 0 0 (ha_A ad N)) (F0 m 193 ls []) := by
    intro  S H locs ls hf  hP hD hS hl
    unfold f_X12_step_J193 at hf
    refine lv_iconst (v := 0) hx hb dX12_step_193 (by decide) ?_
    refine lv_istore_n (lv' := [(2, .int 0), (0, .ref (ad p0)), (1, .int p1)]) hx hb dX12_step_194 rfl hl (by decide) rfl (fun ls hl => ?_)
    have key12 : ∀ (K : (ha_St) → Option (ha_St)), (∀  (S : ha_St) (H : Heap) (locs : List Loc) (ls : Array Slot), K S = some out → va_P D vwCl (ha_wl cs ad mo_kd mo_ln N S) H → va_D (ha_A ad N) (ha_wl cs ad mo_kd mo_ln N S) → va_S (ha_A ad N) s.heap H locs → lv_has ls 3 [(0, .ref (ad p0)), (1, .int p1)] → W p l e (headSpec wsX12_step ({ frames := 3, cells := 0, slots := 0, locals := 73 } : Room)).room s m ([.ref (ad p0), .int p1] : List Value).toArray below meth c H locs 0 0 (MQ below (va_Qv (fun (_ : Unit) => True) (fun _ => ha_H D cs ad mo_kd mo_ln N out) (ha_A ad N)) ([.ref (ad p0), .int p1] : List Value).toArray s 0 0 (ha_A ad N)) (F0 m 231 ls [])) → ∀ (n : Nat) (v2 : Int32) (S : ha_St) (H : Heap) (locs : List Loc) (ls : Array Slot), (f_X12_step_L195i p0 p1 n (v2, S)).bind K = some out → va_P D vwCl (ha_wl cs ad mo_kd mo_ln N S) H → va_D (ha_A ad N) (ha_wl cs ad mo_kd mo_ln N S) → va_S (ha_A ad N) s.heap H locs → lv_has ls 3 [(0, .ref (ad p0)), (1, .int p1), (2, .int v2)] → W p l e (headSpec wsX12_step ({ frames := 3, cells := 0, slots := 0, locals := 73 } : Room)).room s m ([.ref (ad p0), .int p1] : List Value).toArray below meth c H locs 0 0 (MQ below (va_Qv (fun (_ : Unit) => True) (fun _ => ha_H D cs ad mo_kd mo_ln N out) (ha_A ad N)) ([.ref (ad p0), .int p1] : List Value).toArray s 0 0 (ha_A ad N)) (F0 m 195 ls []) := by
      intro K hk n
      induction n with
      | zero =>
        intro v2 S H locs ls hf
        exact absurd (show (none : Option (ha_St)) = some out from hf) (fun h => by cases h)
      | succ n ih =>
        intro v2 S H locs ls hf  hP hD hS hl
        have J225 : ∀ (v2 : Int32) (S : ha_St) (H : Heap) (locs : List Loc) (ls : Array Slot), (f_X12_step_L195_J225 p0 p1 (f_X12_step_L195i p0 p1 n) v2 S).bind K = some out → va_P D vwCl (ha_wl cs ad mo_kd mo_ln N S) H → va_D (ha_A ad N) (ha_wl cs ad mo_kd mo_ln N S) → va_S (ha_A ad N) s.heap H locs → lv_has ls 3 [(0, .ref (ad p0)), (1, .int p1), (2, .int v2)] → W p l e (headSpec wsX12_step ({ frames := 3, cells := 0, slots := 0, locals := 73 } : Room)).room s m ([.ref (ad p0), .int p1] : List Value).toArray below meth c H locs 0 0 (MQ below (va_Qv (fun (_ : Unit) => True) (fun _ => ha_H D cs ad mo_kd mo_ln N out) (ha_A ad N)) ([.ref (ad p0), .int p1] : List Value).toArray s 0 0 (ha_A ad N)) (F0 m 225 ls []) := by
          intro v2 S H locs ls hf  hP hD hS hl
          unfold f_X12_step_L195_J225 at hf
          obtain ⟨x3, ex3⟩ : ∃ y : Int32, y = (v2 : Int32) + 1 := ⟨_, rfl⟩
          have hf := ha_nms hf ex3
          refine lv_iinc (v := x3) (lv' := [(2, .int x3), (0, .ref (ad p0)), (1, .int p1)]) hx hb dX12_step_225 hl (k := 2) rfl (by rw [ex3]; rfl) (by decide) rfl (fun ls hl => ?_)
          refine lv_goto (tgt := 195) hx hb dX12_step_228 (by decide) ?_
          exact ih x3 S H locs ls hf  hP hD hS (lv_sub hl [1, 2, 0] rfl)
        have hf : (f_X12_step_L195 p0 p1 (f_X12_step_L195i p0 p1 n) v2 S).bind K = some out := hf
        unfold f_X12_step_L195 at hf
        refine lv_iload_n hx hb dX12_step_195 rfl (lv_at hl 2 rfl) ?_
        refine lv_iconst (v := 4) hx hb dX12_step_196 (by decide) ?_
        refine lv_aload_n hx hb dX12_step_197 rfl (lv_at hl 0 rfl) ?_
        refine ha_geti hx hb hown hK hP q13 hN h0 dX12_step_198 ?_
        refine lv_imul hx hb dX12_step_201 ?_
        refine lv_icmp_ge (tgt := 231) hx hb dX12_step_202 (by decide) (fun c4 => ?_) (fun c4 => ?_)
        · have hf := ha_it hf c4
          exact hk  S H locs ls hf  hP hD hS (lv_sub hl [0, 1] rfl)
        · have hf := ha_if hf c4
          refine lv_aload_n hx hb dX12_step_205 rfl (lv_at hl 0 rfl) ?_
          obtain ⟨r5, wr5, hf⟩ := ha_bds hf
          obtain ⟨wr5, hr5⟩ := ha_rf_some wr5
          refine ha_getr hx hb hown hK hP q62 hN h0 wr5 dX12_step_206 ?_
          refine lv_iload_n hx hb dX12_step_209 rfl (lv_at hl 2 rfl) ?_
          obtain ⟨g6, hf⟩ := ha_gds hf
          refine ha_iald hx hb hK hP hN hr5 g6 dX12_step_210 ?_
          refine lv_aload_n hx hb dX12_step_211 rfl (lv_at hl 0 rfl) ?_
          obtain ⟨r7, wr7, hf⟩ := ha_bds hf
          obtain ⟨wr7, hr7⟩ := ha_rf_some wr7
          refine ha_getr hx hb hown hK hP q71 hN h0 wr7 dX12_step_212 ?_
          refine lv_iload_n hx hb dX12_step_215 rfl (lv_at hl 2 rfl) ?_
          obtain ⟨g8, hf⟩ := ha_gds hf
          refine ha_iald hx hb hK hP hN hr7 g8 dX12_step_216 ?_
          refine lv_icmp_eq (tgt := 225) hx hb dX12_step_217 (by decide) (fun c9 => ?_) (fun c9 => ?_)
          · have hf := ha_it hf c9
            exact J225 v2 S H locs ls hf  hP hD hS (lv_sub hl [0, 1, 2] rfl)
          · have hf := ha_if hf c9
            refine lv_aload_n hx hb dX12_step_220 rfl (lv_at hl 0 rfl) ?_
            refine lv_iconst (v := 1) hx hb dX12_step_221 (by decide) ?_
            obtain ⟨g11, hf⟩ := ha_gds hf
            refine ha_putz hx hb hown hK hP hD hS r292 hN h0 g11 dX12_step_222 (fun S10 H locs eS10 hP hD hS => ?_)
            have hf := ha_nms hf eS10
            exact J225 v2 S10 H locs ls hf  hP hD hS (lv_sub hl [0, 1, 2] rfl)
    refine key12 _ (fun  S H locs ls hf  hP hD hS hl => ?_) ha_fu 0 S H locs ls (ha_as hf)  hP hD hS (lv_sub hl [1, 2, 0] rfl)
    have hf : (f_X12_step_J231 p0 p1  S).bind some = some out := hf
    exact J231  S H locs ls hf  hP hD hS (lv_sub hl [0, 1] rfl)
  have J108 : ∀  (S : ha_St) (H : Heap) (locs : List Loc) (ls : Array Slot), (f_X12_step_J108 p0 p1  S).bind some = some out → va_P D vwCl (ha_wl cs ad mo_kd mo_ln N S) H → va_D (ha_A ad N) (ha_wl cs ad mo_kd mo_ln N S) → va_S (ha_A ad N) s.heap H locs → lv_has ls 3 [(0, .ref (ad p0)), (1, .int p1)] → W p l e (headSpec wsX12_step ({ frames := 3, cells := 0, slots := 0, locals := 73 } : Room)).room s m ([.ref (ad p0), .int p1] : List Value).toArray below meth c H locs 0 0 (MQ below (va_Qv (fun (_ : Unit) => True) (fun _ => ha_H D cs ad mo_kd mo_ln N out) (ha_A ad N)) ([.ref (ad p0), .int p1] : List Value).toArray s 0 0 (ha_A ad N)) (F0 m 108 ls []) := by
    intro  S H locs ls hf  hP hD hS hl
    unfold f_X12_step_J108 at hf
    refine lv_iconst (v := 0) hx hb dX12_step_108 (by decide) ?_
    refine lv_istore_n (lv' := [(2, .int 0), (0, .ref (ad p0)), (1, .int p1)]) hx hb dX12_step_109 rfl hl (by decide) rfl (fun ls hl => ?_)
    have key36 : ∀ (K : (ha_St) → Option (ha_St)), (∀  (S : ha_St) (H : Heap) (locs : List Loc) (ls : Array Slot), K S = some out → va_P D vwCl (ha_wl cs ad mo_kd mo_ln N S) H → va_D (ha_A ad N) (ha_wl cs ad mo_kd mo_ln N S) → va_S (ha_A ad N) s.heap H locs → lv_has ls 3 [(0, .ref (ad p0)), (1, .int p1)] → W p l e (headSpec wsX12_step ({ frames := 3, cells := 0, slots := 0, locals := 73 } : Room)).room s m ([.ref (ad p0), .int p1] : List Value).toArray below meth c H locs 0 0 (MQ below (va_Qv (fun (_ : Unit) => True) (fun _ => ha_H D cs ad mo_kd mo_ln N out) (ha_A ad N)) ([.ref (ad p0), .int p1] : List Value).toArray s 0 0 (ha_A ad N)) (F0 m 193 ls [])) → ∀ (n : Nat) (v2 : Int32) (S : ha_St) (H : Heap) (locs : List Loc) (ls : Array Slot), (f_X12_step_L110i p0 p1 n (v2, S)).bind K = some out → va_P D vwCl (ha_wl cs ad mo_kd mo_ln N S) H → va_D (ha_A ad N) (ha_wl cs ad mo_kd mo_ln N S) → va_S (ha_A ad N) s.heap H locs → lv_has ls 3 [(0, .ref (ad p0)), (1, .int p1), (2, .int v2)] → W p l e (headSpec wsX12_step ({ frames := 3, cells := 0, slots := 0, locals := 73 } : Room)).room s m ([.ref (ad p0), .int p1] : List Value).toArray below meth c H locs 0 0 (MQ below (va_Qv (fun (_ : Unit) => True) (fun _ => ha_H D cs ad mo_kd mo_ln N out) (ha_A ad N)) ([.ref (ad p0), .int p1] : List Value).toArray s 0 0 (ha_A ad N)) (F0 m 110 ls []) := by
      intro K hk n
      induction n with
      | zero =>
        intro v2 S H locs ls hf
        exact absurd (show (none : Option (ha_St)) = some out from hf) (fun h => by cases h)
      | succ n ih =>
        intro v2 S H locs ls hf  hP hD hS hl
        have J186 : ∀ (v2 : Int32) (k0 : Nat) (k1 : Int32) (k2 : Int32) (S : ha_St) (H : Heap) (locs : List Loc) (ls : Array Slot), (f_X12_step_L110_J186 p0 p1 (f_X12_step_L110i p0 p1 n) v2 k0 k1 k2 S).bind K = some out → mo_kd k0 = 100 → va_P D vwCl (ha_wl cs ad mo_kd mo_ln N S) H → va_D (ha_A ad N) (ha_wl cs ad mo_kd mo_ln N S) → va_S (ha_A ad N) s.heap H locs → lv_has ls 3 [(0, .ref (ad p0)), (1, .int p1), (2, .int v2)] → W p l e (headSpec wsX12_step ({ frames := 3, cells := 0, slots := 0, locals := 73 } : Room)).room s m ([.ref (ad p0), .int p1] : List Value).toArray below meth c H locs 0 0 (MQ below (va_Qv (fun (_ : Unit) => True) (fun _ => ha_H D cs ad mo_kd mo_ln N out) (ha_A ad N)) ([.ref (ad p0), .int p1] : List Value).toArray s 0 0 (ha_A ad N)) (F0 m 186 ls [.int k2, .int k1, .ref (ad k0)]) := by
          intro v2 k0 k1 k2 S H locs ls hf hk0 hP hD hS hl
          unfold f_X12_step_L110_J186 at hf
          obtain ⟨g14, hf⟩ := ha_gds hf
          refine ha_iast hx hb hK hP hD hS hN hk0 g14 dX12_step_186 (fun S15 H locs eS15 hP hD hS => ?_)
          have hf := ha_nms hf eS15
          obtain ⟨x16, ex16⟩ : ∃ y : Int32, y = (v2 : Int32) + 1 := ⟨_, rfl⟩
          have hf := ha_nms hf ex16
          refine lv_iinc (v := x16) (lv' := [(2, .int x16), (0, .ref (ad p0)), (1, .int p1)]) hx hb dX12_step_187 hl (k := 2) rfl (by rw [ex16]; rfl) (by decide) rfl (fun ls hl => ?_)
          refine lv_goto (tgt := 110) hx hb dX12_step_190 (by decide) ?_
          exact ih x16 S15 H locs ls hf  hP hD hS (lv_sub hl [1, 2, 0] rfl)
        have J138 : ∀ (v2 : Int32) (S : ha_St) (H : Heap) (locs : List Loc) (ls : Array Slot), (f_X12_step_L110_J138 p0 p1 (f_X12_step_L110i p0 p1 n) v2 S).bind K = some out → va_P D vwCl (ha_wl cs ad mo_kd mo_ln N S) H → va_D (ha_A ad N) (ha_wl cs ad mo_kd mo_ln N S) → va_S (ha_A ad N) s.heap H locs → lv_has ls 3 [(0, .ref (ad p0)), (1, .int p1), (2, .int v2)] → W p l e (headSpec wsX12_step ({ frames := 3, cells := 0, slots := 0, locals := 73 } : Room)).room s m ([.ref (ad p0), .int p1] : List Value).toArray below meth c H locs 0 0 (MQ below (va_Qv (fun (_ : Unit) => True) (fun _ => ha_H D cs ad mo_kd mo_ln N out) (ha_A ad N)) ([.ref (ad p0), .int p1] : List Value).toArray s 0 0 (ha_A ad N)) (F0 m 138 ls []) := by
          intro v2 S H locs ls hf  hP hD hS hl
          unfold f_X12_step_L110_J138 at hf
          refine lv_aload_n hx hb dX12_step_138 rfl (lv_at hl 0 rfl) ?_
          obtain ⟨r17, wr17, hf⟩ := ha_bds hf
          obtain ⟨wr17, hr17⟩ := ha_rf_some wr17
          refine ha_getr hx hb hown hK hP q65 hN h0 wr17 dX12_step_139 ?_
          refine lv_iload_n hx hb dX12_step_142 rfl (lv_at hl 2 rfl) ?_
          refine lv_aload_n hx hb dX12_step_143 rfl (lv_at hl 0 rfl) ?_
          obtain ⟨r18, wr18, hf⟩ := ha_bds hf
          obtain ⟨wr18, hr18⟩ := ha_rf_some wr18
          refine ha_getr hx hb hown hK hP q56 hN h0 wr18 dX12_step_144 ?_
          refine lv_iload_n hx hb dX12_step_147 rfl (lv_at hl 2 rfl) ?_
          obtain ⟨g19, hf⟩ := ha_gds hf
          refine ha_iald hx hb hK hP hN hr18 g19 dX12_step_148 ?_
          refine lv_aload_n hx hb dX12_step_149 rfl (lv_at hl 0 rfl) ?_
          obtain ⟨r20, wr20, hf⟩ := ha_bds hf
          obtain ⟨wr20, hr20⟩ := ha_rf_some wr20
          refine ha_getr hx hb hown hK hP q59 hN h0 wr20 dX12_step_150 ?_
          refine lv_iload_n hx hb dX12_step_153 rfl (lv_at hl 2 rfl) ?_
          obtain ⟨g21, hf⟩ := ha_gds hf
          refine ha_iald hx hb hK hP hN hr20 g21 dX12_step_154 ?_
          refine lv_icmp_eq (tgt := 162) hx hb dX12_step_155 (by decide) (fun c22 => ?_) (fun c22 => ?_)
          · have hf := ha_it hf c22
            refine lv_aload_n hx hb dX12_step_162 rfl (lv_at hl 0 rfl) ?_
            obtain ⟨r23, wr23, hf⟩ := ha_bds hf
            obtain ⟨wr23, hr23⟩ := ha_rf_some wr23
            refine ha_getr hx hb hown hK hP q65 hN h0 wr23 dX12_step_163 ?_
            refine lv_iload_n hx hb dX12_step_166 rfl (lv_at hl 2 rfl) ?_
            obtain ⟨g24, hf⟩ := ha_gds hf
            refine ha_iald hx hb hK hP hN hr23 g24 dX12_step_167 ?_
            refine lv_bipush (v := 99) hx hb dX12_step_168 (by decide) ?_
            refine lv_icmp_ge (tgt := 184) hx hb dX12_step_170 (by decide) (fun c25 => ?_) (fun c25 => ?_)
            · have hf := ha_it hf c25
              refine lv_bipush (v := 99) hx hb dX12_step_184 (by decide) ?_
              exact J186 v2 r17 v2 99 S H locs ls hf hr17 hP hD hS (lv_sub hl [0, 1, 2] rfl)
            · have hf := ha_if hf c25
              refine lv_aload_n hx hb dX12_step_173 rfl (lv_at hl 0 rfl) ?_
              obtain ⟨r26, wr26, hf⟩ := ha_bds hf
              obtain ⟨wr26, hr26⟩ := ha_rf_some wr26
              refine ha_getr hx hb hown hK hP q65 hN h0 wr26 dX12_step_174 ?_
              refine lv_iload_n hx hb dX12_step_177 rfl (lv_at hl 2 rfl) ?_
              obtain ⟨g27, hf⟩ := ha_gds hf
              refine ha_iald hx hb hK hP hN hr26 g27 dX12_step_178 ?_
              refine lv_iconst (v := 1) hx hb dX12_step_179 (by decide) ?_
              refine lv_iadd hx hb dX12_step_180 ?_
              refine lv_goto (tgt := 186) hx hb dX12_step_181 (by decide) ?_
              exact J186 v2 r17 v2 ((((ha_gA S r26 (v2 : Int32).toNatClampNeg) : Int32) + 1)) S H locs ls hf hr17 hP hD hS (lv_sub hl [0, 1, 2] rfl)
          · have hf := ha_if hf c22
            refine lv_iconst (v := 0) hx hb dX12_step_158 (by decide) ?_
            refine lv_goto (tgt := 186) hx hb dX12_step_159 (by decide) ?_
            exact J186 v2 r17 v2 0 S H locs ls hf hr17 hP hD hS (lv_sub hl [0, 1, 2] rfl)
        have hf : (f_X12_step_L110 p0 p1 (f_X12_step_L110i p0 p1 n) v2 S).bind K = some out := hf
        unfold f_X12_step_L110 at hf
        refine lv_iload_n hx hb dX12_step_110 rfl (lv_at hl 2 rfl) ?_
        refine lv_aload_n hx hb dX12_step_111 rfl (lv_at hl 0 rfl) ?_
        refine ha_geti hx hb hown hK hP q13 hN h0 dX12_step_112 ?_
        refine lv_icmp_ge (tgt := 193) hx hb dX12_step_115 (by decide) (fun c28 => ?_) (fun c28 => ?_)
        · have hf := ha_it hf c28
          exact hk  S H locs ls hf  hP hD hS (lv_sub hl [0, 1] rfl)
        · have hf := ha_if hf c28
          refine lv_aload_n hx hb dX12_step_118 rfl (lv_at hl 0 rfl) ?_
          obtain ⟨r29, wr29, hf⟩ := ha_bds hf
          obtain ⟨wr29, hr29⟩ := ha_rf_some wr29
          refine ha_getr hx hb hown hK hP q56 hN h0 wr29 dX12_step_119 ?_
          refine lv_iload_n hx hb dX12_step_122 rfl (lv_at hl 2 rfl) ?_
          obtain ⟨g30, hf⟩ := ha_gds hf
          refine ha_iald hx hb hK hP hN hr29 g30 dX12_step_123 ?_
          refine lv_aload_n hx hb dX12_step_124 rfl (lv_at hl 0 rfl) ?_
          obtain ⟨r31, wr31, hf⟩ := ha_bds hf
          obtain ⟨wr31, hr31⟩ := ha_rf_some wr31
          refine ha_getr hx hb hown hK hP q59 hN h0 wr31 dX12_step_125 ?_
          refine lv_iload_n hx hb dX12_step_128 rfl (lv_at hl 2 rfl) ?_
          obtain ⟨g32, hf⟩ := ha_gds hf
          refine ha_iald hx hb hK hP hN hr31 g32 dX12_step_129 ?_
          refine lv_icmp_eq (tgt := 138) hx hb dX12_step_130 (by decide) (fun c33 => ?_) (fun c33 => ?_)
          · have hf := ha_it hf c33
            exact J138 v2 S H locs ls hf  hP hD hS (lv_sub hl [0, 1, 2] rfl)
          · have hf := ha_if hf c33
            refine lv_aload_n hx hb dX12_step_133 rfl (lv_at hl 0 rfl) ?_
            refine lv_iconst (v := 1) hx hb dX12_step_134 (by decide) ?_
            obtain ⟨g35, hf⟩ := ha_gds hf
            refine ha_putz hx hb hown hK hP hD hS r292 hN h0 g35 dX12_step_135 (fun S34 H locs eS34 hP hD hS => ?_)
            have hf := ha_nms hf eS34
            exact J138 v2 S34 H locs ls hf  hP hD hS (lv_sub hl [0, 1, 2] rfl)
    refine key36 _ (fun  S H locs ls hf  hP hD hS hl => ?_) ha_fu 0 S H locs ls (ha_as hf)  hP hD hS (lv_sub hl [1, 2, 0] rfl)
    have hf : (f_X12_step_J193 p0 p1  S).bind some = some out := hf
    exact J193  S H locs ls hf  hP hD hS (lv_sub hl [0, 1] rfl)
  have J63 : ∀  (S : ha_St) (H : Heap) (locs : List Loc) (ls : Array Slot), (f_X12_step_J63 p0 p1  S).bind some = some out → va_P D vwCl (ha_wl cs ad mo_kd mo_ln N S) H → va_D (ha_A ad N) (ha_wl cs ad mo_kd mo_ln N S) → va_S (ha_A ad N) s.heap H locs → lv_has ls 3 [(0, .ref (ad p0)), (1, .int p1)] → W p l e (headSpec wsX12_step ({ frames := 3, cells := 0, slots := 0, locals := 73 } : Room)).room s m ([.ref (ad p0), .int p1] : List Value).toArray below meth c H locs 0 0 (MQ below (va_Qv (fun (_ : Unit) => True) (fun _ => ha_H D cs ad mo_kd mo_ln N out) (ha_A ad N)) ([.ref (ad p0), .int p1] : List Value).toArray s 0 0 (ha_A ad N)) (F0 m 63 ls []) := by
    intro  S H locs ls hf  hP hD hS hl
    unfold f_X12_step_J63 at hf
    refine lv_iconst (v := 0) hx hb dX12_step_63 (by decide) ?_
    refine lv_istore_n (lv' := [(2, .int 0), (0, .ref (ad p0)), (1, .int p1)]) hx hb dX12_step_64 rfl hl (by decide) rfl (fun ls hl => ?_)
    have key43 : ∀ (K : (ha_St) → Option (ha_St)), (∀  (S : ha_St) (H : Heap) (locs : List Loc) (ls : Array Slot), K S = some out → va_P D vwCl (ha_wl cs ad mo_kd mo_ln N S) H → va_D (ha_A ad N) (ha_wl cs ad mo_kd mo_ln N S) → va_S (ha_A ad N) s.heap H locs → lv_has ls 3 [(0, .ref (ad p0)), (1, .int p1)] → W p l e (headSpec wsX12_step ({ frames := 3, cells := 0, slots := 0, locals := 73 } : Room)).room s m ([.ref (ad p0), .int p1] : List Value).toArray below meth c H locs 0 0 (MQ below (va_Qv (fun (_ : Unit) => True) (fun _ => ha_H D cs ad mo_kd mo_ln N out) (ha_A ad N)) ([.ref (ad p0), .int p1] : List Value).toArray s 0 0 (ha_A ad N)) (F0 m 108 ls [])) → ∀ (n : Nat) (v2 : Int32) (S : ha_St) (H : Heap) (locs : List Loc) (ls : Array Slot), (f_X12_step_L65i p0 p1 n (v2, S)).bind K = some out → va_P D vwCl (ha_wl cs ad mo_kd mo_ln N S) H → va_D (ha_A ad N) (ha_wl cs ad mo_kd mo_ln N S) → va_S (ha_A ad N) s.heap H locs → lv_has ls 3 [(0, .ref (ad p0)), (1, .int p1), (2, .int v2)] → W p l e (headSpec wsX12_step ({ frames := 3, cells := 0, slots := 0, locals := 73 } : Room)).room s m ([.ref (ad p0), .int p1] : List Value).toArray below meth c H locs 0 0 (MQ below (va_Qv (fun (_ : Unit) => True) (fun _ => ha_H D cs ad mo_kd mo_ln N out) (ha_A ad N)) ([.ref (ad p0), .int p1] : List Value).toArray s 0 0 (ha_A ad N)) (F0 m 65 ls []) := by
      intro K hk n
      induction n with
      | zero =>
        intro v2 S H locs ls hf
        exact absurd (show (none : Option (ha_St)) = some out from hf) (fun h => by cases h)
      | succ n ih =>
        intro v2 S H locs ls hf  hP hD hS hl
        have J99 : ∀ (v2 : Int32) (k0 : Nat) (k1 : Int32) (k2 : Int32) (k3 : Int32) (S : ha_St) (H : Heap) (locs : List Loc) (ls : Array Slot), (f_X12_step_L65_J99 p0 p1 (f_X12_step_L65i p0 p1 n) v2 k0 k1 k2 k3 S).bind K = some out → mo_kd k0 = 12 → va_P D vwCl (ha_wl cs ad mo_kd mo_ln N S) H → va_D (ha_A ad N) (ha_wl cs ad mo_kd mo_ln N S) → va_S (ha_A ad N) s.heap H locs → lv_has ls 3 [(0, .ref (ad p0)), (1, .int p1), (2, .int v2)] → W p l e (headSpec wsX12_step ({ frames := 3, cells := 0, slots := 0, locals := 73 } : Room)).room s m ([.ref (ad p0), .int p1] : List Value).toArray below meth c H locs 0 0 (MQ below (va_Qv (fun (_ : Unit) => True) (fun _ => ha_H D cs ad mo_kd mo_ln N out) (ha_A ad N)) ([.ref (ad p0), .int p1] : List Value).toArray s 0 0 (ha_A ad N)) (F0 m 99 ls [.int k3, .int k2, .int k1, .ref (ad k0)]) := by
          intro v2 k0 k1 k2 k3 S H locs ls hf hk0 hP hD hS hl
          unfold f_X12_step_L65_J99 at hf
          obtain ⟨z38, wz38, hf⟩ := ha_bds hf
          refine ha_callVv (As := [.int k1, .int k2, .int k3]) (rest := []) hZ ⟨hx, hb, hml, hown, hts⟩ hK hz hP hD hS (c_X12_doRule hZ hN hk0 wz38) cw0 hN hk0 (by decide) rfl rfl hl.1 rfl (Nat.le_of_ble_eq_true rfl) dX12_step_99 ⟨Nat.le_of_ble_eq_true rfl, Nat.le_of_ble_eq_true rfl⟩ (fun H locs hP hD hS => ?_)
          obtain ⟨x39, ex39⟩ : ∃ y : Int32, y = (v2 : Int32) + 1 := ⟨_, rfl⟩
          have hf := ha_nms hf ex39
          refine lv_iinc (v := x39) (lv' := [(2, .int x39), (0, .ref (ad p0)), (1, .int p1)]) hx hb dX12_step_102 hl (k := 2) rfl (by rw [ex39]; rfl) (by decide) rfl (fun ls hl => ?_)
          refine lv_goto (tgt := 65) hx hb dX12_step_105 (by decide) ?_
          exact ih x39 z38 H locs ls hf  hP hD hS (lv_sub hl [1, 2, 0] rfl)
        have hf : (f_X12_step_L65 p0 p1 (f_X12_step_L65i p0 p1 n) v2 S).bind K = some out := hf
        unfold f_X12_step_L65 at hf
        refine lv_iload_n hx hb dX12_step_65 rfl (lv_at hl 2 rfl) ?_
        refine lv_aload_n hx hb dX12_step_66 rfl (lv_at hl 0 rfl) ?_
        refine ha_geti hx hb hown hK hP q13 hN h0 dX12_step_67 ?_
        refine lv_icmp_ge (tgt := 108) hx hb dX12_step_70 (by decide) (fun c40 => ?_) (fun c40 => ?_)
        · have hf := ha_it hf c40
          exact hk  S H locs ls hf  hP hD hS (lv_sub hl [0, 1] rfl)
        · have hf := ha_if hf c40
          refine lv_aload_n hx hb dX12_step_73 rfl (lv_at hl 0 rfl) ?_
          refine lv_iload_n hx hb dX12_step_74 rfl (lv_at hl 2 rfl) ?_
          refine lv_iload_n hx hb dX12_step_75 rfl (lv_at hl 1 rfl) ?_
          refine lv_iload_n hx hb dX12_step_76 rfl (lv_at hl 2 rfl) ?_
          refine lv_if_ne (tgt := 84) hx hb dX12_step_77 (by decide) (fun c41 => ?_) (fun c41 => ?_)
          · have hf := ha_it hf c41
            refine lv_iload_n hx hb dX12_step_84 rfl (lv_at hl 2 rfl) ?_
            refine lv_aload_n hx hb dX12_step_85 rfl (lv_at hl 0 rfl) ?_
            refine ha_geti hx hb hown hK hP q13 hN h0 dX12_step_86 ?_
            refine lv_iconst (v := 1) hx hb dX12_step_89 (by decide) ?_
            refine lv_isub hx hb dX12_step_90 ?_
            refine lv_icmp_ne (tgt := 98) hx hb dX12_step_91 (by decide) (fun c42 => ?_) (fun c42 => ?_)
            · have hf := ha_it hf c42
              refine lv_iconst (v := 2) hx hb dX12_step_98 (by decide) ?_
              exact J99 v2 p0 v2 p1 2 S H locs ls hf h0 hP hD hS (lv_sub hl [0, 1, 2] rfl)
            · have hf := ha_if hf (fun q => q c42)
              refine lv_iconst (v := 1) hx hb dX12_step_94 (by decide) ?_
              refine lv_goto (tgt := 99) hx hb dX12_step_95 (by decide) ?_
              exact J99 v2 p0 v2 p1 1 S H locs ls hf h0 hP hD hS (lv_sub hl [0, 1, 2] rfl)
          · have hf := ha_if hf (fun q => q c41)
            refine lv_iconst (v := 0) hx hb dX12_step_80 (by decide) ?_
            refine lv_goto (tgt := 99) hx hb dX12_step_81 (by decide) ?_
            exact J99 v2 p0 v2 p1 0 S H locs ls hf h0 hP hD hS (lv_sub hl [0, 1, 2] rfl)
    refine key43 _ (fun  S H locs ls hf  hP hD hS hl => ?_) ha_fu 0 S H locs ls (ha_as hf)  hP hD hS (lv_sub hl [1, 2, 0] rfl)
    have hf : (f_X12_step_J108 p0 p1  S).bind some = some out := hf
    exact J108  S H locs ls hf  hP hD hS (lv_sub hl [0, 1] rfl)
  have J33 : ∀  (S : ha_St) (H : Heap) (locs : List Loc) (ls : Array Slot), (f_X12_step_J33 p0 p1  S).bind some = some out → va_P D vwCl (ha_wl cs ad mo_kd mo_ln N S) H → va_D (ha_A ad N) (ha_wl cs ad mo_kd mo_ln N S) → va_S (ha_A ad N) s.heap H locs → lv_has ls 3 [(0, .ref (ad p0)), (1, .int p1)] → W p l e (headSpec wsX12_step ({ frames := 3, cells := 0, slots := 0, locals := 73 } : Room)).room s m ([.ref (ad p0), .int p1] : List Value).toArray below meth c H locs 0 0 (MQ below (va_Qv (fun (_ : Unit) => True) (fun _ => ha_H D cs ad mo_kd mo_ln N out) (ha_A ad N)) ([.ref (ad p0), .int p1] : List Value).toArray s 0 0 (ha_A ad N)) (F0 m 33 ls []) := by
    intro  S H locs ls hf  hP hD hS hl
    unfold f_X12_step_J33 at hf
    refine lv_iconst (v := 0) hx hb dX12_step_33 (by decide) ?_
    refine lv_istore_n (lv' := [(2, .int 0), (0, .ref (ad p0)), (1, .int p1)]) hx hb dX12_step_34 rfl hl (by decide) rfl (fun ls hl => ?_)
    have key52 : ∀ (K : (ha_St) → Option (ha_St)), (∀  (S : ha_St) (H : Heap) (locs : List Loc) (ls : Array Slot), K S = some out → va_P D vwCl (ha_wl cs ad mo_kd mo_ln N S) H → va_D (ha_A ad N) (ha_wl cs ad mo_kd mo_ln N S) → va_S (ha_A ad N) s.heap H locs → lv_has ls 3 [(0, .ref (ad p0)), (1, .int p1)] → W p l e (headSpec wsX12_step ({ frames := 3, cells := 0, slots := 0, locals := 73 } : Room)).room s m ([.ref (ad p0), .int p1] : List Value).toArray below meth c H locs 0 0 (MQ below (va_Qv (fun (_ : Unit) => True) (fun _ => ha_H D cs ad mo_kd mo_ln N out) (ha_A ad N)) ([.ref (ad p0), .int p1] : List Value).toArray s 0 0 (ha_A ad N)) (F0 m 63 ls [])) → ∀ (n : Nat) (v2 : Int32) (S : ha_St) (H : Heap) (locs : List Loc) (ls : Array Slot), (f_X12_step_L35i p0 p1 n (v2, S)).bind K = some out → va_P D vwCl (ha_wl cs ad mo_kd mo_ln N S) H → va_D (ha_A ad N) (ha_wl cs ad mo_kd mo_ln N S) → va_S (ha_A ad N) s.heap H locs → lv_has ls 3 [(0, .ref (ad p0)), (1, .int p1), (2, .int v2)] → W p l e (headSpec wsX12_step ({ frames := 3, cells := 0, slots := 0, locals := 73 } : Room)).room s m ([.ref (ad p0), .int p1] : List Value).toArray below meth c H locs 0 0 (MQ below (va_Qv (fun (_ : Unit) => True) (fun _ => ha_H D cs ad mo_kd mo_ln N out) (ha_A ad N)) ([.ref (ad p0), .int p1] : List Value).toArray s 0 0 (ha_A ad N)) (F0 m 35 ls []) := by
      intro K hk n
      induction n with
      | zero =>
        intro v2 S H locs ls hf
        exact absurd (show (none : Option (ha_St)) = some out from hf) (fun h => by cases h)
      | succ n ih =>
        intro v2 S H locs ls hf  hP hD hS hl
        have hf : (f_X12_step_L35 p0 p1 (f_X12_step_L35i p0 p1 n) v2 S).bind K = some out := hf
        unfold f_X12_step_L35 at hf
        refine lv_iload_n hx hb dX12_step_35 rfl (lv_at hl 2 rfl) ?_
        refine lv_iconst (v := 4) hx hb dX12_step_36 (by decide) ?_
        refine lv_aload_n hx hb dX12_step_37 rfl (lv_at hl 0 rfl) ?_
        refine ha_geti hx hb hown hK hP q13 hN h0 dX12_step_38 ?_
        refine lv_imul hx hb dX12_step_41 ?_
        refine lv_icmp_ge (tgt := 63) hx hb dX12_step_42 (by decide) (fun c45 => ?_) (fun c45 => ?_)
        · have hf := ha_it hf c45
          exact hk  S H locs ls hf  hP hD hS (lv_sub hl [0, 1] rfl)
        · have hf := ha_if hf c45
          refine lv_aload_n hx hb dX12_step_45 rfl (lv_at hl 0 rfl) ?_
          obtain ⟨r46, wr46, hf⟩ := ha_bds hf
          obtain ⟨wr46, hr46⟩ := ha_rf_some wr46
          refine ha_getr hx hb hown hK hP q71 hN h0 wr46 dX12_step_46 ?_
          refine lv_iload_n hx hb dX12_step_49 rfl (lv_at hl 2 rfl) ?_
          refine lv_aload_n hx hb dX12_step_50 rfl (lv_at hl 0 rfl) ?_
          obtain ⟨r47, wr47, hf⟩ := ha_bds hf
          obtain ⟨wr47, hr47⟩ := ha_rf_some wr47
          refine ha_getr hx hb hown hK hP q62 hN h0 wr47 dX12_step_51 ?_
          refine lv_iload_n hx hb dX12_step_54 rfl (lv_at hl 2 rfl) ?_
          obtain ⟨g48, hf⟩ := ha_gds hf
          refine ha_iald hx hb hK hP hN hr47 g48 dX12_step_55 ?_
          obtain ⟨g49, hf⟩ := ha_gds hf
          refine ha_iast hx hb hK hP hD hS hN hr46 g49 dX12_step_56 (fun S50 H locs eS50 hP hD hS => ?_)
          have hf := ha_nms hf eS50
          obtain ⟨x51, ex51⟩ : ∃ y : Int32, y = (v2 : Int32) + 1 := ⟨_, rfl⟩
          have hf := ha_nms hf ex51
          refine lv_iinc (v := x51) (lv' := [(2, .int x51), (0, .ref (ad p0)), (1, .int p1)]) hx hb dX12_step_57 hl (k := 2) rfl (by rw [ex51]; rfl) (by decide) rfl (fun ls hl => ?_)
          refine lv_goto (tgt := 35) hx hb dX12_step_60 (by decide) ?_
          exact ih x51 S50 H locs ls hf  hP hD hS (lv_sub hl [1, 2, 0] rfl)
    refine key52 _ (fun  S H locs ls hf  hP hD hS hl => ?_) ha_fu 0 S H locs ls (ha_as hf)  hP hD hS (lv_sub hl [1, 2, 0] rfl)
    have hf : (f_X12_step_J63 p0 p1  S).bind some = some out := hf
    exact J63  S H locs ls hf  hP hD hS (lv_sub hl [0, 1] rfl)
  unfold f_X12_step at hf
  refine lv_aload_n hx hb dX12_step_0 rfl (lv_at hl 0 rfl) ?_
  refine lv_iconst (v := 0) hx hb dX12_step_1 (by decide) ?_
  obtain ⟨g55, hf⟩ := ha_gds hf
  refine ha_putz hx hb hown hK hP hD hS r292 hN h0 g55 dX12_step_2 (fun S54 H locs eS54 hP hD hS => ?_)
  have hf := ha_nms hf eS54
  refine lv_iconst (v := 0) hx hb dX12_step_5 (by decide) ?_
  refine lv_istore_n (lv' := [(2, .int 0), (0, .ref (ad p0)), (1, .int p1)]) hx hb dX12_step_6 rfl hl (by decide) rfl (fun ls hl => ?_)
  have key63 : ∀ (K : (ha_St) → Option (ha_St)), (∀  (S : ha_St) (H : Heap) (locs : List Loc) (ls : Array Slot), K S = some out → va_P D vwCl (ha_wl cs ad mo_kd mo_ln N S) H → va_D (ha_A ad N) (ha_wl cs ad mo_kd mo_ln N S) → va_S (ha_A ad N) s.heap H locs → lv_has ls 3 [(0, .ref (ad p0)), (1, .int p1)] → W p l e (headSpec wsX12_step ({ frames := 3, cells := 0, slots := 0, locals := 73 } : Room)).room s m ([.ref (ad p0), .int p1] : List Value).toArray below meth c H locs 0 0 (MQ below (va_Qv (fun (_ : Unit) => True) (fun _ => ha_H D cs ad mo_kd mo_ln N out) (ha_A ad N)) ([.ref (ad p0), .int p1] : List Value).toArray s 0 0 (ha_A ad N)) (F0 m 33 ls [])) → ∀ (n : Nat) (v2 : Int32) (S : ha_St) (H : Heap) (locs : List Loc) (ls : Array Slot), (f_X12_step_L7i p0 p1 n (v2, S)).bind K = some out → va_P D vwCl (ha_wl cs ad mo_kd mo_ln N S) H → va_D (ha_A ad N) (ha_wl cs ad mo_kd mo_ln N S) → va_S (ha_A ad N) s.heap H locs → lv_has ls 3 [(0, .ref (ad p0)), (1, .int p1), (2, .int v2)] → W p l e (headSpec wsX12_step ({ frames := 3, cells := 0, slots := 0, locals := 73 } : Room)).room s m ([.ref (ad p0), .int p1] : List Value).toArray below meth c H locs 0 0 (MQ below (va_Qv (fun (_ : Unit) => True) (fun _ => ha_H D cs ad mo_kd mo_ln N out) (ha_A ad N)) ([.ref (ad p0), .int p1] : List Value).toArray s 0 0 (ha_A ad N)) (F0 m 7 ls []) := by
    intro K hk n
    induction n with
    | zero =>
      intro v2 S H locs ls hf
      exact absurd (show (none : Option (ha_St)) = some out from hf) (fun h => by cases h)
    | succ n ih =>
      intro v2 S H locs ls hf  hP hD hS hl
      have hf : (f_X12_step_L7 p0 p1 (f_X12_step_L7i p0 p1 n) v2 S).bind K = some out := hf
      unfold f_X12_step_L7 at hf
      refine lv_iload_n hx hb dX12_step_7 rfl (lv_at hl 2 rfl) ?_
      refine lv_aload_n hx hb dX12_step_8 rfl (lv_at hl 0 rfl) ?_
      refine ha_geti hx hb hown hK hP q13 hN h0 dX12_step_9 ?_
      refine lv_icmp_ge (tgt := 33) hx hb dX12_step_12 (by decide) (fun c56 => ?_) (fun c56 => ?_)
      · have hf := ha_it hf c56
        exact hk  S H locs ls hf  hP hD hS (lv_sub hl [0, 1] rfl)
      · have hf := ha_if hf c56
        refine lv_aload_n hx hb dX12_step_15 rfl (lv_at hl 0 rfl) ?_
        obtain ⟨r57, wr57, hf⟩ := ha_bds hf
        obtain ⟨wr57, hr57⟩ := ha_rf_some wr57
        refine ha_getr hx hb hown hK hP q59 hN h0 wr57 dX12_step_16 ?_
        refine lv_iload_n hx hb dX12_step_19 rfl (lv_at hl 2 rfl) ?_
        refine lv_aload_n hx hb dX12_step_20 rfl (lv_at hl 0 rfl) ?_
        obtain ⟨r58, wr58, hf⟩ := ha_bds hf
        obtain ⟨wr58, hr58⟩ := ha_rf_some wr58
        refine ha_getr hx hb hown hK hP q56 hN h0 wr58 dX12_step_21 ?_
        refine lv_iload_n hx hb dX12_step_24 rfl (lv_at hl 2 rfl) ?_
        obtain ⟨g59, hf⟩ := ha_gds hf
        refine ha_iald hx hb hK hP hN hr58 g59 dX12_step_25 ?_
        obtain ⟨g60, hf⟩ := ha_gds hf
        refine ha_iast hx hb hK hP hD hS hN hr57 g60 dX12_step_26 (fun S61 H locs eS61 hP hD hS => ?_)
        have hf := ha_nms hf eS61
        obtain ⟨x62, ex62⟩ : ∃ y : Int32, y = (v2 : Int32) + 1 := ⟨_, rfl⟩
        have hf := ha_nms hf ex62
        refine lv_iinc (v := x62) (lv' := [(2, .int x62), (0, .ref (ad p0)), (1, .int p1)]) hx hb dX12_step_27 hl (k := 2) rfl (by rw [ex62]; rfl) (by decide) rfl (fun ls hl => ?_)
        refine lv_goto (tgt := 7) hx hb dX12_step_30 (by decide) ?_
        exact ih x62 S61 H locs ls hf  hP hD hS (lv_sub hl [1, 2, 0] rfl)
  refine key63 _ (fun  S H locs ls hf  hP hD hS hl => ?_) ha_fu 0 S54 H locs ls (ha_as hf)  hP hD hS (lv_sub hl [1, 2, 0] rfl)
  have hf : (f_X12_step_J33 p0 p1  S).bind some = some out := hf
  exact J33  S H locs ls hf  hP hD hS (lv_sub hl [0, 1] rfl)

set_option maxHeartbeats 4000000 in
set_option maxRecDepth 100000 in
theorem c_X12_begin {l : Launch} {D : va_G} {cs : Nat → ClassId} {ad : Nat → Nat} {N : List Nat} {Z : State → Prop} (hZ : ha_Zok (ha_A ad N) Z) (hN : ∀ x, mo_kd x < 999 → x ∈ N) {p0 : Nat} {S : ha_St} {out : ha_St} (h0 : mo_kd p0 = 12) (hf : f_X12_begin p0 S = some out) : ha_Cv l D cs ad mo_kd mo_ln N Z yX12_begin wsX12_begin ({ frames := 0, cells := 0, slots := 0, locals := 0 } : Room) [.ref (ad p0)] S out := by
  refine Met.ofW (cc := cX12_begin) (maxL := 2) (ret := none) (by decide +kernel) rfl ?_
  intro p e s m args below meth c s₁ B hml hv
  obtain ⟨rfl, hP, hD, hK, hz⟩ := hv
  have hx := B.exec
  have hb := B.bytes
  have hr := B.returns
  have hts := atoms_spec (ws := wsX12_begin) B.pre
  have hown : s.vm.findClass RX12 = some m.cls := findClass_of_methodNamed B.named
  have hlocks := B.notSynchronized
  have hS : va_S (ha_A ad N) s.heap s.heap [] := va_S.rf
  have hi12 : ∀ w ∈ wsX120, w ∈ wsX12_begin := fun w h => List.mem_cons_of_mem _ (List.mem_append_right _ h)
  have q62 : ha_Fk s ([.ref (ad p0)] : List Value).toArray RX12 62 12 34 1 := ⟨RX12, TX12, 83, wsX12_begin, rfl, by decide, by decide, rfl, rfl, hts, hi12, hts (.fieldLink RX12 62 "HillArmsModel" "cells" "[I") (by decide +kernel)⟩
  have q13 : ha_Fk s ([.ref (ad p0)] : List Value).toArray RX12 13 12 4 0 := ⟨RX12, TX12, 83, wsX12_begin, rfl, by decide, by decide, rfl, rfl, hts, hi12, hts (.fieldLink RX12 13 "HillArmsModel" "n" "I") (by decide +kernel)⟩
  have q56 : ha_Fk s ([.ref (ad p0)] : List Value).toArray RX12 56 12 32 1 := ⟨RX12, TX12, 83, wsX12_begin, rfl, by decide, by decide, rfl, rfl, hts, hi12, hts (.fieldLink RX12 56 "HillArmsModel" "now" "[I") (by decide +kernel)⟩
  have q65 : ha_Fk s ([.ref (ad p0)] : List Value).toArray RX12 65 12 35 1 := ⟨RX12, TX12, 83, wsX12_begin, rfl, by decide, by decide, rfl, rfl, hts, hi12, hts (.fieldLink RX12 65 "HillArmsModel" "times" "[I") (by decide +kernel)⟩
  have r296 : ha_Fp s ([.ref (ad p0)] : List Value).toArray RX12 296 12 37 0 .int := ⟨RX12, TX12, 83, wsX12_begin, tyX12, rfl, by decide, by decide, rfl, rfl, hts, hi12, hts (.fieldLink RX12 296 "HillArmsModel" "wroteMany" "I") (by decide +kernel), tyX12_ok, nmX12, rfl, by decide +kernel⟩
  have r285 : ha_Fp s ([.ref (ad p0)] : List Value).toArray RX12 285 12 38 0 .int := ⟨RX12, TX12, 83, wsX12_begin, tyX12, rfl, by decide, by decide, rfl, rfl, hts, hi12, hts (.fieldLink RX12 285 "HillArmsModel" "sent" "I") (by decide +kernel), tyX12_ok, nmX12, rfl, by decide +kernel⟩
  have r314 : ha_Fp s ([.ref (ad p0)] : List Value).toArray RX12 314 12 39 0 .int := ⟨RX12, TX12, 83, wsX12_begin, tyX12, rfl, by decide, by decide, rfl, rfl, hts, hi12, hts (.fieldLink RX12 314 "HillArmsModel" "still" "I") (by decide +kernel), tyX12_ok, nmX12, rfl, by decide +kernel⟩
  have hl := lv_entry ([.ref (ad p0)]) (n := 2) (Nat.le_of_ble_eq_true rfl)
  rw [lg_entry_eq]
  generalize (lg_sl ([.ref (ad p0)]) ++ List.replicate (2 - (lg_sl ([.ref (ad p0)])).length) Slot.unset).toArray = ls at hl ⊢
  have hl : lv_has ls 2 [(0, .ref (ad p0))] := hl
  refine (fun (K0 : ∀ (H : Heap) (locs : List Loc), va_P D vwCl (ha_wl cs ad mo_kd mo_ln N S) H → va_S (ha_A ad N) s.heap H locs → W p l e (headSpec wsX12_begin ({ frames := 0, cells := 0, slots := 0, locals := 0 } : Room)).room s m ([.ref (ad p0)] : List Value).toArray below meth c H locs 0 0 (MQ below (va_Qv (fun (_ : Unit) => True) (fun _ => ha_H D cs ad mo_kd mo_ln N out) (ha_A ad N)) ([.ref (ad p0)] : List Value).toArray s 0 0 (ha_A ad N)) (F0 m 0 ls [])) => K0 _ _ hP hS) ?_
  intro H locs hP hS
  have hf := ha_rt hf
  have J51 : ∀  (S : ha_St) (H : Heap) (locs : List Loc) (ls : Array Slot), (f_X12_begin_J51 p0  S).bind some = some out → va_P D vwCl (ha_wl cs ad mo_kd mo_ln N S) H → va_D (ha_A ad N) (ha_wl cs ad mo_kd mo_ln N S) → va_S (ha_A ad N) s.heap H locs → lv_has ls 2 [(0, .ref (ad p0))] → W p l e (headSpec wsX12_begin ({ frames := 0, cells := 0, slots := 0, locals := 0 } : Room)).room s m ([.ref (ad p0)] : List Value).toArray below meth c H locs 0 0 (MQ below (va_Qv (fun (_ : Unit) => True) (fun _ => ha_H D cs ad mo_kd mo_ln N out) (ha_A ad N)) ([.ref (ad p0)] : List Value).toArray s 0 0 (ha_A ad N)) (F0 m 51 ls []) := by
    intro  S H locs ls hf  hP hD hS hl
    unfold f_X12_begin_J51 at hf
    refine lv_aload_n hx hb dX12_begin_51 rfl (lv_at hl 0 rfl) ?_
    refine lv_iconst (v := 0) hx hb dX12_begin_52 (by decide) ?_
    refine ha_puti hx hb hown hK hP hD hS r296 hN h0 dX12_begin_53 (fun S1 H locs eS1 hP hD hS => ?_)
    have hf := ha_nms hf eS1
    refine lv_aload_n hx hb dX12_begin_56 rfl (lv_at hl 0 rfl) ?_
    refine lv_iconst (v := 0) hx hb dX12_begin_57 (by decide) ?_
    refine ha_puti hx hb hown hK hP hD hS r285 hN h0 dX12_begin_58 (fun S2 H locs eS2 hP hD hS => ?_)
    have hf := ha_nms hf eS2
    refine lv_aload_n hx hb dX12_begin_61 rfl (lv_at hl 0 rfl) ?_
    refine lv_iconst (v := 0) hx hb dX12_begin_62 (by decide) ?_
    refine ha_puti hx hb hown hK hP hD hS r314 hN h0 dX12_begin_63 (fun S3 H locs eS3 hP hD hS => ?_)
    have hf := ha_nms hf eS3
    have he := Option.some.inj hf
    exact ha_retv hx hb hr hlocks hP hD hS dX12_begin_66 he
  have J30 : ∀  (S : ha_St) (H : Heap) (locs : List Loc) (ls : Array Slot), (f_X12_begin_J30 p0  S).bind some = some out → va_P D vwCl (ha_wl cs ad mo_kd mo_ln N S) H → va_D (ha_A ad N) (ha_wl cs ad mo_kd mo_ln N S) → va_S (ha_A ad N) s.heap H locs → lv_has ls 2 [(0, .ref (ad p0))] → W p l e (headSpec wsX12_begin ({ frames := 0, cells := 0, slots := 0, locals := 0 } : Room)).room s m ([.ref (ad p0)] : List Value).toArray below meth c H locs 0 0 (MQ below (va_Qv (fun (_ : Unit) => True) (fun _ => ha_H D cs ad mo_kd mo_ln N out) (ha_A ad N)) ([.ref (ad p0)] : List Value).toArray s 0 0 (ha_A ad N)) (F0 m 30 ls []) := by
    intro  S H locs ls hf  hP hD hS hl
    unfold f_X12_begin_J30 at hf
    refine lv_iconst (v := 0) hx hb dX12_begin_30 (by decide) ?_
    refine lv_istore_n (lv' := [(1, .int 0), (0, .ref (ad p0))]) hx hb dX12_begin_31 rfl hl (by decide) rfl (fun ls hl => ?_)
    have key9 : ∀ (K : (ha_St) → Option (ha_St)), (∀  (S : ha_St) (H : Heap) (locs : List Loc) (ls : Array Slot), K S = some out → va_P D vwCl (ha_wl cs ad mo_kd mo_ln N S) H → va_D (ha_A ad N) (ha_wl cs ad mo_kd mo_ln N S) → va_S (ha_A ad N) s.heap H locs → lv_has ls 2 [(0, .ref (ad p0))] → W p l e (headSpec wsX12_begin ({ frames := 0, cells := 0, slots := 0, locals := 0 } : Room)).room s m ([.ref (ad p0)] : List Value).toArray below meth c H locs 0 0 (MQ below (va_Qv (fun (_ : Unit) => True) (fun _ => ha_H D cs ad mo_kd mo_ln N out) (ha_A ad N)) ([.ref (ad p0)] : List Value).toArray s 0 0 (ha_A ad N)) (F0 m 51 ls [])) → ∀ (n : Nat) (v1 : Int32) (S : ha_St) (H : Heap) (locs : List Loc) (ls : Array Slot), (f_X12_begin_L32i p0 n (v1, S)).bind K = some out → va_P D vwCl (ha_wl cs ad mo_kd mo_ln N S) H → va_D (ha_A ad N) (ha_wl cs ad mo_kd mo_ln N S) → va_S (ha_A ad N) s.heap H locs → lv_has ls 2 [(0, .ref (ad p0)), (1, .int v1)] → W p l e (headSpec wsX12_begin ({ frames := 0, cells := 0, slots := 0, locals := 0 } : Room)).room s m ([.ref (ad p0)] : List Value).toArray below meth c H locs 0 0 (MQ below (va_Qv (fun (_ : Unit) => True) (fun _ => ha_H D cs ad mo_kd mo_ln N out) (ha_A ad N)) ([.ref (ad p0)] : List Value).toArray s 0 0 (ha_A ad N)) (F0 m 32 ls []) := by
      intro K hk n
      induction n with
      | zero =>
        intro v1 S H locs ls hf
        exact absurd (show (none : Option (ha_St)) = some out from hf) (fun h => by cases h)
      | succ n ih =>
        intro v1 S H locs ls hf  hP hD hS hl
        have hf : (f_X12_begin_L32 p0 (f_X12_begin_L32i p0 n) v1 S).bind K = some out := hf
        unfold f_X12_begin_L32 at hf
        refine lv_iload_n hx hb dX12_begin_32 rfl (lv_at hl 1 rfl) ?_
        refine lv_bipush (v := 64) hx hb dX12_begin_33 (by decide) ?_
        refine lv_icmp_ge (tgt := 51) hx hb dX12_begin_35 (by decide) (fun c4 => ?_) (fun c4 => ?_)
        · have hf := ha_it hf c4
          exact hk  S H locs ls hf  hP hD hS (lv_sub hl [0] rfl)
        · have hf := ha_if hf c4
          refine lv_aload_n hx hb dX12_begin_38 rfl (lv_at hl 0 rfl) ?_
          obtain ⟨r5, wr5, hf⟩ := ha_bds hf
          obtain ⟨wr5, hr5⟩ := ha_rf_some wr5
          refine ha_getr hx hb hown hK hP q62 hN h0 wr5 dX12_begin_39 ?_
          refine lv_iload_n hx hb dX12_begin_42 rfl (lv_at hl 1 rfl) ?_
          refine lv_iconst (v := 0) hx hb dX12_begin_43 (by decide) ?_
          obtain ⟨g6, hf⟩ := ha_gds hf
          refine ha_iast hx hb hK hP hD hS hN hr5 g6 dX12_begin_44 (fun S7 H locs eS7 hP hD hS => ?_)
          have hf := ha_nms hf eS7
          obtain ⟨x8, ex8⟩ : ∃ y : Int32, y = (v1 : Int32) + 1 := ⟨_, rfl⟩
          have hf := ha_nms hf ex8
          refine lv_iinc (v := x8) (lv' := [(1, .int x8), (0, .ref (ad p0))]) hx hb dX12_begin_45 hl (k := 1) rfl (by rw [ex8]; rfl) (by decide) rfl (fun ls hl => ?_)
          refine lv_goto (tgt := 32) hx hb dX12_begin_48 (by decide) ?_
          exact ih x8 S7 H locs ls hf  hP hD hS (lv_sub hl [1, 0] rfl)
    refine key9 _ (fun  S H locs ls hf  hP hD hS hl => ?_) ha_fu 0 S H locs ls (ha_as hf)  hP hD hS (lv_sub hl [1, 0] rfl)
    have hf : (f_X12_begin_J51 p0  S).bind some = some out := hf
    exact J51  S H locs ls hf  hP hD hS (lv_sub hl [0] rfl)
  unfold f_X12_begin at hf
  refine lv_iconst (v := 0) hx hb dX12_begin_0 (by decide) ?_
  refine lv_istore_n (lv' := [(1, .int 0), (0, .ref (ad p0))]) hx hb dX12_begin_1 rfl hl (by decide) rfl (fun ls hl => ?_)
  have key19 : ∀ (K : (ha_St) → Option (ha_St)), (∀  (S : ha_St) (H : Heap) (locs : List Loc) (ls : Array Slot), K S = some out → va_P D vwCl (ha_wl cs ad mo_kd mo_ln N S) H → va_D (ha_A ad N) (ha_wl cs ad mo_kd mo_ln N S) → va_S (ha_A ad N) s.heap H locs → lv_has ls 2 [(0, .ref (ad p0))] → W p l e (headSpec wsX12_begin ({ frames := 0, cells := 0, slots := 0, locals := 0 } : Room)).room s m ([.ref (ad p0)] : List Value).toArray below meth c H locs 0 0 (MQ below (va_Qv (fun (_ : Unit) => True) (fun _ => ha_H D cs ad mo_kd mo_ln N out) (ha_A ad N)) ([.ref (ad p0)] : List Value).toArray s 0 0 (ha_A ad N)) (F0 m 30 ls [])) → ∀ (n : Nat) (v1 : Int32) (S : ha_St) (H : Heap) (locs : List Loc) (ls : Array Slot), (f_X12_begin_L2i p0 n (v1, S)).bind K = some out → va_P D vwCl (ha_wl cs ad mo_kd mo_ln N S) H → va_D (ha_A ad N) (ha_wl cs ad mo_kd mo_ln N S) → va_S (ha_A ad N) s.heap H locs → lv_has ls 2 [(0, .ref (ad p0)), (1, .int v1)] → W p l e (headSpec wsX12_begin ({ frames := 0, cells := 0, slots := 0, locals := 0 } : Room)).room s m ([.ref (ad p0)] : List Value).toArray below meth c H locs 0 0 (MQ below (va_Qv (fun (_ : Unit) => True) (fun _ => ha_H D cs ad mo_kd mo_ln N out) (ha_A ad N)) ([.ref (ad p0)] : List Value).toArray s 0 0 (ha_A ad N)) (F0 m 2 ls []) := by
    intro K hk n
    induction n with
    | zero =>
      intro v1 S H locs ls hf
      exact absurd (show (none : Option (ha_St)) = some out from hf) (fun h => by cases h)
    | succ n ih =>
      intro v1 S H locs ls hf  hP hD hS hl
      have hf : (f_X12_begin_L2 p0 (f_X12_begin_L2i p0 n) v1 S).bind K = some out := hf
      unfold f_X12_begin_L2 at hf
      refine lv_iload_n hx hb dX12_begin_2 rfl (lv_at hl 1 rfl) ?_
      refine lv_aload_n hx hb dX12_begin_3 rfl (lv_at hl 0 rfl) ?_
      refine ha_geti hx hb hown hK hP q13 hN h0 dX12_begin_4 ?_
      refine lv_icmp_ge (tgt := 30) hx hb dX12_begin_7 (by decide) (fun c11 => ?_) (fun c11 => ?_)
      · have hf := ha_it hf c11
        exact hk  S H locs ls hf  hP hD hS (lv_sub hl [0] rfl)
      · have hf := ha_if hf c11
        refine lv_aload_n hx hb dX12_begin_10 rfl (lv_at hl 0 rfl) ?_
        obtain ⟨r12, wr12, hf⟩ := ha_bds hf
        obtain ⟨wr12, hr12⟩ := ha_rf_some wr12
        refine ha_getr hx hb hown hK hP q56 hN h0 wr12 dX12_begin_11 ?_
        refine lv_iload_n hx hb dX12_begin_14 rfl (lv_at hl 1 rfl) ?_
        refine lv_iconst (v := 0) hx hb dX12_begin_15 (by decide) ?_
        obtain ⟨g13, hf⟩ := ha_gds hf
        refine ha_iast hx hb hK hP hD hS hN hr12 g13 dX12_begin_16 (fun S14 H locs eS14 hP hD hS => ?_)
        have hf := ha_nms hf eS14
        refine lv_aload_n hx hb dX12_begin_17 rfl (lv_at hl 0 rfl) ?_
        obtain ⟨r15, wr15, hf⟩ := ha_bds hf
        obtain ⟨wr15, hr15⟩ := ha_rf_some wr15
        refine ha_getr hx hb hown hK hP q65 hN h0 wr15 dX12_begin_18 ?_
        refine lv_iload_n hx hb dX12_begin_21 rfl (lv_at hl 1 rfl) ?_
        refine lv_iconst (v := 0) hx hb dX12_begin_22 (by decide) ?_
        obtain ⟨g16, hf⟩ := ha_gds hf
        refine ha_iast hx hb hK hP hD hS hN hr15 g16 dX12_begin_23 (fun S17 H locs eS17 hP hD hS => ?_)
        have hf := ha_nms hf eS17
        obtain ⟨x18, ex18⟩ : ∃ y : Int32, y = (v1 : Int32) + 1 := ⟨_, rfl⟩
        have hf := ha_nms hf ex18
        refine lv_iinc (v := x18) (lv' := [(1, .int x18), (0, .ref (ad p0))]) hx hb dX12_begin_24 hl (k := 1) rfl (by rw [ex18]; rfl) (by decide) rfl (fun ls hl => ?_)
        refine lv_goto (tgt := 2) hx hb dX12_begin_27 (by decide) ?_
        exact ih x18 S17 H locs ls hf  hP hD hS (lv_sub hl [1, 0] rfl)
  refine key19 _ (fun  S H locs ls hf  hP hD hS hl => ?_) ha_fu 0 S H locs ls (ha_as hf)  hP hD hS (lv_sub hl [1, 0] rfl)
  have hf : (f_X12_begin_J30 p0  S).bind some = some out := hf
  exact J30  S H locs ls hf  hP hD hS (lv_sub hl [0] rfl)

set_option maxHeartbeats 4000000 in
set_option maxRecDepth 100000 in
theorem c_X12_judged {l : Launch} {D : va_G} {cs : Nat → ClassId} {ad : Nat → Nat} {N : List Nat} {Z : State → Prop} (hZ : ha_Zok (ha_A ad N) Z) (hN : ∀ x, mo_kd x < 999 → x ∈ N) {p0 : Nat} {S : ha_St} {out : Int32 × ha_St} (h0 : mo_kd p0 = 12) (hf : f_X12_judged p0 S = some out) : ha_Ci l D cs ad mo_kd mo_ln N Z yX12_judged wsX12_judged ({ frames := 0, cells := 0, slots := 0, locals := 0 } : Room) [.ref (ad p0)] S out.1 out.2 := by
  refine Met.ofW (cc := cX12_judged) (maxL := 2) (ret := (some .int)) (by decide +kernel) rfl ?_
  intro p e s m args below meth c s₁ B hml hv
  obtain ⟨rfl, hP, hD, hK, hz⟩ := hv
  have hx := B.exec
  have hb := B.bytes
  have hr := B.returns
  have hts := atoms_spec (ws := wsX12_judged) B.pre
  have hown : s.vm.findClass RX12 = some m.cls := findClass_of_methodNamed B.named
  have hlocks := B.notSynchronized
  have hS : va_S (ha_A ad N) s.heap s.heap [] := va_S.rf
  have hi12 : ∀ w ∈ wsX120, w ∈ wsX12_judged := fun w h => List.mem_cons_of_mem _ (List.mem_append_right _ h)
  have q296 : ha_Fk s ([.ref (ad p0)] : List Value).toArray RX12 296 12 37 0 := ⟨RX12, TX12, 83, wsX12_judged, rfl, by decide, by decide, rfl, rfl, hts, hi12, hts (.fieldLink RX12 296 "HillArmsModel" "wroteMany" "I") (by decide +kernel)⟩
  have q264 : ha_Fk s ([.ref (ad p0)] : List Value).toArray RX12 264 12 30 0 := ⟨RX12, TX12, 83, wsX12_judged, rfl, by decide, by decide, rfl, rfl, hts, hi12, hts (.fieldLink RX12 264 "HillArmsModel" "signs" "I") (by decide +kernel)⟩
  have q68 : ha_Fk s ([.ref (ad p0)] : List Value).toArray RX12 68 12 36 1 := ⟨RX12, TX12, 83, wsX12_judged, rfl, by decide, by decide, rfl, rfl, hts, hi12, hts (.fieldLink RX12 68 "HillArmsModel" "wrote" "[I") (by decide +kernel)⟩
  have q44 : ha_Fk s ([.ref (ad p0)] : List Value).toArray RX12 44 12 26 1 := ⟨RX12, TX12, 83, wsX12_judged, rfl, by decide, by decide, rfl, rfl, hts, hi12, hts (.fieldLink RX12 44 "HillArmsModel" "message" "[I") (by decide +kernel)⟩
  have r317 : ha_Fp s ([.ref (ad p0)] : List Value).toArray RX12 317 12 48 0 .int := ⟨RX12, TX12, 83, wsX12_judged, tyX12, rfl, by decide, by decide, rfl, rfl, hts, hi12, hts (.fieldLink RX12 317 "HillArmsModel" "wrongAt" "I") (by decide +kernel), tyX12_ok, nmX12, rfl, by decide +kernel⟩
  have hl := lv_entry ([.ref (ad p0)]) (n := 2) (Nat.le_of_ble_eq_true rfl)
  rw [lg_entry_eq]
  generalize (lg_sl ([.ref (ad p0)]) ++ List.replicate (2 - (lg_sl ([.ref (ad p0)])).length) Slot.unset).toArray = ls at hl ⊢
  have hl : lv_has ls 2 [(0, .ref (ad p0))] := hl
  refine (fun (K0 : ∀ (H : Heap) (locs : List Loc), va_P D vwCl (ha_wl cs ad mo_kd mo_ln N S) H → va_S (ha_A ad N) s.heap H locs → W p l e (headSpec wsX12_judged ({ frames := 0, cells := 0, slots := 0, locals := 0 } : Room)).room s m ([.ref (ad p0)] : List Value).toArray below meth c H locs 0 0 (MQ below (va_Qi (fun (r : Int32) (_ : Unit) => r = out.1) (fun _ => ha_H D cs ad mo_kd mo_ln N out.2) (ha_A ad N)) ([.ref (ad p0)] : List Value).toArray s 0 0 (ha_A ad N)) (F0 m 0 ls [])) => K0 _ _ hP hS) ?_
  intro H locs hP hS
  have hf := ha_rt hf
  have J70 : ∀ (k0 : Int32) (S : ha_St) (H : Heap) (locs : List Loc) (ls : Array Slot), (f_X12_judged_J70 p0 k0 S).bind some = some out → va_P D vwCl (ha_wl cs ad mo_kd mo_ln N S) H → va_D (ha_A ad N) (ha_wl cs ad mo_kd mo_ln N S) → va_S (ha_A ad N) s.heap H locs → lv_has ls 2 [(0, .ref (ad p0))] → W p l e (headSpec wsX12_judged ({ frames := 0, cells := 0, slots := 0, locals := 0 } : Room)).room s m ([.ref (ad p0)] : List Value).toArray below meth c H locs 0 0 (MQ below (va_Qi (fun (r : Int32) (_ : Unit) => r = out.1) (fun _ => ha_H D cs ad mo_kd mo_ln N out.2) (ha_A ad N)) ([.ref (ad p0)] : List Value).toArray s 0 0 (ha_A ad N)) (F0 m 70 ls [.int k0]) := by
    intro k0 S H locs ls hf  hP hD hS hl
    unfold f_X12_judged_J70 at hf
    have he := Option.some.inj hf
    exact ha_reti hx hb hr hlocks hP hD hS dX12_judged_70 (ha_e1 he) (ha_e2 he)
  have J39 : ∀ (v1 : Int32) (S : ha_St) (H : Heap) (locs : List Loc) (ls : Array Slot), (f_X12_judged_J39 p0 v1 S).bind some = some out → va_P D vwCl (ha_wl cs ad mo_kd mo_ln N S) H → va_D (ha_A ad N) (ha_wl cs ad mo_kd mo_ln N S) → va_S (ha_A ad N) s.heap H locs → lv_has ls 2 [(0, .ref (ad p0)), (1, .int v1)] → W p l e (headSpec wsX12_judged ({ frames := 0, cells := 0, slots := 0, locals := 0 } : Room)).room s m ([.ref (ad p0)] : List Value).toArray below meth c H locs 0 0 (MQ below (va_Qi (fun (r : Int32) (_ : Unit) => r = out.1) (fun _ => ha_H D cs ad mo_kd mo_ln N out.2) (ha_A ad N)) ([.ref (ad p0)] : List Value).toArray s 0 0 (ha_A ad N)) (F0 m 39 ls []) := by
    intro v1 S H locs ls hf  hP hD hS hl
    unfold f_X12_judged_J39 at hf
    refine lv_aload_n hx hb dX12_judged_39 rfl (lv_at hl 0 rfl) ?_
    refine lv_iload_n hx hb dX12_judged_40 rfl (lv_at hl 1 rfl) ?_
    refine ha_puti hx hb hown hK hP hD hS r317 hN h0 dX12_judged_41 (fun S1 H locs eS1 hP hD hS => ?_)
    have hf := ha_nms hf eS1
    refine lv_iload_n hx hb dX12_judged_44 rfl (lv_at hl 1 rfl) ?_
    refine lv_aload_n hx hb dX12_judged_45 rfl (lv_at hl 0 rfl) ?_
    refine ha_geti hx hb hown hK hP q296 hN h0 dX12_judged_46 ?_
    refine lv_icmp_ge (tgt := 54) hx hb dX12_judged_49 (by decide) (fun c2 => ?_) (fun c2 => ?_)
    · have hf := ha_it hf c2
      refine lv_aload_n hx hb dX12_judged_54 rfl (lv_at hl 0 rfl) ?_
      refine ha_geti hx hb hown hK hP q296 hN h0 dX12_judged_55 ?_
      refine lv_aload_n hx hb dX12_judged_58 rfl (lv_at hl 0 rfl) ?_
      refine ha_geti hx hb hown hK hP q264 hN h0 dX12_judged_59 ?_
      refine lv_icmp_ne (tgt := 69) hx hb dX12_judged_62 (by decide) (fun c3 => ?_) (fun c3 => ?_)
      · have hf := ha_it hf c3
        refine lv_iconst (v := 1) hx hb dX12_judged_69 (by decide) ?_
        exact J70 1 S1 H locs ls hf  hP hD hS (lv_sub hl [0] rfl)
      · have hf := ha_if hf (fun q => q c3)
        refine lv_iconst (v := 0) hx hb dX12_judged_65 (by decide) ?_
        refine lv_goto (tgt := 70) hx hb dX12_judged_66 (by decide) ?_
        exact J70 0 S1 H locs ls hf  hP hD hS (lv_sub hl [0] rfl)
    · have hf := ha_if hf c2
      refine lv_iconst (v := 2) hx hb dX12_judged_52 (by decide) ?_
      have he := Option.some.inj hf
      exact ha_reti hx hb hr hlocks hP hD hS dX12_judged_53 (ha_e1 he) (ha_e2 he)
  unfold f_X12_judged at hf
  refine lv_iconst (v := 0) hx hb dX12_judged_0 (by decide) ?_
  refine lv_istore_n (lv' := [(1, .int 0), (0, .ref (ad p0))]) hx hb dX12_judged_1 rfl hl (by decide) rfl (fun ls hl => ?_)
  have key12 : ∀ (K : (Int32 × ha_St) → Option (Int32 × ha_St)), (∀ (v1 : Int32) (S : ha_St) (H : Heap) (locs : List Loc) (ls : Array Slot), K (v1, S) = some out → va_P D vwCl (ha_wl cs ad mo_kd mo_ln N S) H → va_D (ha_A ad N) (ha_wl cs ad mo_kd mo_ln N S) → va_S (ha_A ad N) s.heap H locs → lv_has ls 2 [(0, .ref (ad p0)), (1, .int v1)] → W p l e (headSpec wsX12_judged ({ frames := 0, cells := 0, slots := 0, locals := 0 } : Room)).room s m ([.ref (ad p0)] : List Value).toArray below meth c H locs 0 0 (MQ below (va_Qi (fun (r : Int32) (_ : Unit) => r = out.1) (fun _ => ha_H D cs ad mo_kd mo_ln N out.2) (ha_A ad N)) ([.ref (ad p0)] : List Value).toArray s 0 0 (ha_A ad N)) (F0 m 39 ls [])) → ∀ (n : Nat) (v1 : Int32) (S : ha_St) (H : Heap) (locs : List Loc) (ls : Array Slot), (f_X12_judged_L2i p0 n (v1, S)).bind K = some out → va_P D vwCl (ha_wl cs ad mo_kd mo_ln N S) H → va_D (ha_A ad N) (ha_wl cs ad mo_kd mo_ln N S) → va_S (ha_A ad N) s.heap H locs → lv_has ls 2 [(0, .ref (ad p0)), (1, .int v1)] → W p l e (headSpec wsX12_judged ({ frames := 0, cells := 0, slots := 0, locals := 0 } : Room)).room s m ([.ref (ad p0)] : List Value).toArray below meth c H locs 0 0 (MQ below (va_Qi (fun (r : Int32) (_ : Unit) => r = out.1) (fun _ => ha_H D cs ad mo_kd mo_ln N out.2) (ha_A ad N)) ([.ref (ad p0)] : List Value).toArray s 0 0 (ha_A ad N)) (F0 m 2 ls []) := by
    intro K hk n
    induction n with
    | zero =>
      intro v1 S H locs ls hf
      exact absurd (show (none : Option (Int32 × ha_St)) = some out from hf) (fun h => by cases h)
    | succ n ih =>
      intro v1 S H locs ls hf  hP hD hS hl
      have hf : (f_X12_judged_L2 p0 (f_X12_judged_L2i p0 n) v1 S).bind K = some out := hf
      unfold f_X12_judged_L2 at hf
      refine lv_iload_n hx hb dX12_judged_2 rfl (lv_at hl 1 rfl) ?_
      refine lv_aload_n hx hb dX12_judged_3 rfl (lv_at hl 0 rfl) ?_
      refine ha_geti hx hb hown hK hP q296 hN h0 dX12_judged_4 ?_
      refine lv_icmp_ge (tgt := 39) hx hb dX12_judged_7 (by decide) (fun c4 => ?_) (fun c4 => ?_)
      · have hf := ha_it hf c4
        exact hk v1 S H locs ls hf  hP hD hS (lv_sub hl [0, 1] rfl)
      · have hf := ha_if hf c4
        refine lv_iload_n hx hb dX12_judged_10 rfl (lv_at hl 1 rfl) ?_
        refine lv_aload_n hx hb dX12_judged_11 rfl (lv_at hl 0 rfl) ?_
        refine ha_geti hx hb hown hK hP q264 hN h0 dX12_judged_12 ?_
        refine lv_icmp_ge (tgt := 39) hx hb dX12_judged_15 (by decide) (fun c5 => ?_) (fun c5 => ?_)
        · have hf := ha_it hf c5
          exact hk v1 S H locs ls hf  hP hD hS (lv_sub hl [0, 1] rfl)
        · have hf := ha_if hf c5
          refine lv_aload_n hx hb dX12_judged_18 rfl (lv_at hl 0 rfl) ?_
          obtain ⟨r6, wr6, hf⟩ := ha_bds hf
          obtain ⟨wr6, hr6⟩ := ha_rf_some wr6
          refine ha_getr hx hb hown hK hP q68 hN h0 wr6 dX12_judged_19 ?_
          refine lv_iload_n hx hb dX12_judged_22 rfl (lv_at hl 1 rfl) ?_
          obtain ⟨g7, hf⟩ := ha_gds hf
          refine ha_iald hx hb hK hP hN hr6 g7 dX12_judged_23 ?_
          refine lv_aload_n hx hb dX12_judged_24 rfl (lv_at hl 0 rfl) ?_
          obtain ⟨r8, wr8, hf⟩ := ha_bds hf
          obtain ⟨wr8, hr8⟩ := ha_rf_some wr8
          refine ha_getr hx hb hown hK hP q44 hN h0 wr8 dX12_judged_25 ?_
          refine lv_iload_n hx hb dX12_judged_28 rfl (lv_at hl 1 rfl) ?_
          obtain ⟨g9, hf⟩ := ha_gds hf
          refine ha_iald hx hb hK hP hN hr8 g9 dX12_judged_29 ?_
          refine lv_icmp_ne (tgt := 39) hx hb dX12_judged_30 (by decide) (fun c10 => ?_) (fun c10 => ?_)
          · have hf := ha_it hf c10
            exact hk v1 S H locs ls hf  hP hD hS (lv_sub hl [0, 1] rfl)
          · have hf := ha_if hf (fun q => q c10)
            obtain ⟨x11, ex11⟩ : ∃ y : Int32, y = (v1 : Int32) + 1 := ⟨_, rfl⟩
            have hf := ha_nms hf ex11
            refine lv_iinc (v := x11) (lv' := [(1, .int x11), (0, .ref (ad p0))]) hx hb dX12_judged_33 hl (k := 1) rfl (by rw [ex11]; rfl) (by decide) rfl (fun ls hl => ?_)
            refine lv_goto (tgt := 2) hx hb dX12_judged_36 (by decide) ?_
            exact ih x11 S H locs ls hf  hP hD hS (lv_sub hl [1, 0] rfl)
  refine key12 _ (fun v1 S H locs ls hf  hP hD hS hl => ?_) ha_fu 0 S H locs ls (ha_as hf)  hP hD hS (lv_sub hl [1, 0] rfl)
  have hf : (f_X12_judged_J39 p0 v1 S).bind some = some out := hf
  exact J39 v1 S H locs ls hf  hP hD hS (lv_sub hl [0, 1] rfl)

set_option maxHeartbeats 4000000 in
set_option maxRecDepth 100000 in
theorem c_X12_play {l : Launch} {D : va_G} {cs : Nat → ClassId} {ad : Nat → Nat} {N : List Nat} {Z : State → Prop} (hZ : ha_Zok (ha_A ad N) Z) (hN : ∀ x, mo_kd x < 999 → x ∈ N) {p0 : Nat} {p1 : Int32} {S : ha_St} {out : Int32 × ha_St} (h0 : mo_kd p0 = 12) (hf : f_X12_play p0 p1 S = some out) : ha_Ci l D cs ad mo_kd mo_ln N Z yX12_play wsX12_play ({ frames := 4, cells := 0, slots := 0, locals := 95 } : Room) [.ref (ad p0), .int p1] S out.1 out.2 := by
  refine Met.ofW (cc := cX12_play) (maxL := 4) (ret := (some .int)) (by decide +kernel) rfl ?_
  intro p e s m args below meth c s₁ B hml hv
  obtain ⟨rfl, hP, hD, hK, hz⟩ := hv
  have hx := B.exec
  have hb := B.bytes
  have hr := B.returns
  have hts := atoms_spec (ws := wsX12_play) B.pre
  have hown : s.vm.findClass RX12 = some m.cls := findClass_of_methodNamed B.named
  have hlocks := B.notSynchronized
  have hS : va_S (ha_A ad N) s.heap s.heap [] := va_S.rf
  have hi12 : ∀ w ∈ wsX120, w ∈ wsX12_play := fun w h => List.mem_cons_of_mem _ (List.mem_append_right _ h)
  have q314 : ha_Fk s ([.ref (ad p0), .int p1] : List Value).toArray RX12 314 12 39 0 := ⟨RX12, TX12, 83, wsX12_play, rfl, by decide, by decide, rfl, rfl, hts, hi12, hts (.fieldLink RX12 314 "HillArmsModel" "still" "I") (by decide +kernel)⟩
  have q285 : ha_Fk s ([.ref (ad p0), .int p1] : List Value).toArray RX12 285 12 38 0 := ⟨RX12, TX12, 83, wsX12_play, rfl, by decide, by decide, rfl, rfl, hts, hi12, hts (.fieldLink RX12 285 "HillArmsModel" "sent" "I") (by decide +kernel)⟩
  have q296 : ha_Fk s ([.ref (ad p0), .int p1] : List Value).toArray RX12 296 12 37 0 := ⟨RX12, TX12, 83, wsX12_play, rfl, by decide, by decide, rfl, rfl, hts, hi12, hts (.fieldLink RX12 296 "HillArmsModel" "wroteMany" "I") (by decide +kernel)⟩
  have q335 : ha_Fk s ([.ref (ad p0), .int p1] : List Value).toArray RX12 335 12 56 0 := ⟨RX12, TX12, 83, wsX12_play, rfl, by decide, by decide, rfl, rfl, hts, hi12, hts (.fieldLink RX12 335 "HillArmsModel" "lastJudged" "I") (by decide +kernel)⟩
  have q317 : ha_Fk s ([.ref (ad p0), .int p1] : List Value).toArray RX12 317 12 48 0 := ⟨RX12, TX12, 83, wsX12_play, rfl, by decide, by decide, rfl, rfl, hts, hi12, hts (.fieldLink RX12 317 "HillArmsModel" "wrongAt" "I") (by decide +kernel)⟩
  have q84 : ha_Fk s ([.ref (ad p0), .int p1] : List Value).toArray RX12 84 12 52 1 := ⟨RX12, TX12, 83, wsX12_play, rfl, by decide, by decide, rfl, rfl, hts, hi12, hts (.fieldLink RX12 84 "HillArmsModel" "lastWrote" "[I") (by decide +kernel)⟩
  have q68 : ha_Fk s ([.ref (ad p0), .int p1] : List Value).toArray RX12 68 12 36 1 := ⟨RX12, TX12, 83, wsX12_play, rfl, by decide, by decide, rfl, rfl, hts, hi12, hts (.fieldLink RX12 68 "HillArmsModel" "wrote" "[I") (by decide +kernel)⟩
  have q13 : ha_Fk s ([.ref (ad p0), .int p1] : List Value).toArray RX12 13 12 4 0 := ⟨RX12, TX12, 83, wsX12_play, rfl, by decide, by decide, rfl, rfl, hts, hi12, hts (.fieldLink RX12 13 "HillArmsModel" "n" "I") (by decide +kernel)⟩
  have q81 : ha_Fk s ([.ref (ad p0), .int p1] : List Value).toArray RX12 81 12 51 1 := ⟨RX12, TX12, 83, wsX12_play, rfl, by decide, by decide, rfl, rfl, hts, hi12, hts (.fieldLink RX12 81 "HillArmsModel" "lastTimes" "[I") (by decide +kernel)⟩
  have q65 : ha_Fk s ([.ref (ad p0), .int p1] : List Value).toArray RX12 65 12 35 1 := ⟨RX12, TX12, 83, wsX12_play, rfl, by decide, by decide, rfl, rfl, hts, hi12, hts (.fieldLink RX12 65 "HillArmsModel" "times" "[I") (by decide +kernel)⟩
  have q78 : ha_Fk s ([.ref (ad p0), .int p1] : List Value).toArray RX12 78 12 50 1 := ⟨RX12, TX12, 83, wsX12_play, rfl, by decide, by decide, rfl, rfl, hts, hi12, hts (.fieldLink RX12 78 "HillArmsModel" "lastCells" "[I") (by decide +kernel)⟩
  have q62 : ha_Fk s ([.ref (ad p0), .int p1] : List Value).toArray RX12 62 12 34 1 := ⟨RX12, TX12, 83, wsX12_play, rfl, by decide, by decide, rfl, rfl, hts, hi12, hts (.fieldLink RX12 62 "HillArmsModel" "cells" "[I") (by decide +kernel)⟩
  have q74 : ha_Fk s ([.ref (ad p0), .int p1] : List Value).toArray RX12 74 12 49 1 := ⟨RX12, TX12, 83, wsX12_play, rfl, by decide, by decide, rfl, rfl, hts, hi12, hts (.fieldLink RX12 74 "HillArmsModel" "showed" "[B") (by decide +kernel)⟩
  have q56 : ha_Fk s ([.ref (ad p0), .int p1] : List Value).toArray RX12 56 12 32 1 := ⟨RX12, TX12, 83, wsX12_play, rfl, by decide, by decide, rfl, rfl, hts, hi12, hts (.fieldLink RX12 56 "HillArmsModel" "now" "[I") (by decide +kernel)⟩
  have r338 : ha_Fp s ([.ref (ad p0), .int p1] : List Value).toArray RX12 338 12 57 0 .int := ⟨RX12, TX12, 83, wsX12_play, tyX12, rfl, by decide, by decide, rfl, rfl, hts, hi12, hts (.fieldLink RX12 338 "HillArmsModel" "lastWrong" "I") (by decide +kernel), tyX12_ok, nmX12, rfl, by decide +kernel⟩
  have r341 : ha_Fp s ([.ref (ad p0), .int p1] : List Value).toArray RX12 341 12 58 0 .int := ⟨RX12, TX12, 83, wsX12_play, tyX12, rfl, by decide, by decide, rfl, rfl, hts, hi12, hts (.fieldLink RX12 341 "HillArmsModel" "lastStill" "I") (by decide +kernel), tyX12_ok, nmX12, rfl, by decide +kernel⟩
  have r344 : ha_Fp s ([.ref (ad p0), .int p1] : List Value).toArray RX12 344 12 59 0 .int := ⟨RX12, TX12, 83, wsX12_play, tyX12, rfl, by decide, by decide, rfl, rfl, hts, hi12, hts (.fieldLink RX12 344 "HillArmsModel" "lastSent" "I") (by decide +kernel), tyX12_ok, nmX12, rfl, by decide +kernel⟩
  have r329 : ha_Fp s ([.ref (ad p0), .int p1] : List Value).toArray RX12 329 12 55 0 .int := ⟨RX12, TX12, 83, wsX12_play, tyX12, rfl, by decide, by decide, rfl, rfl, hts, hi12, hts (.fieldLink RX12 329 "HillArmsModel" "lastMany" "I") (by decide +kernel), tyX12_ok, nmX12, rfl, by decide +kernel⟩
  have r335 : ha_Fp s ([.ref (ad p0), .int p1] : List Value).toArray RX12 335 12 56 0 .int := ⟨RX12, TX12, 83, wsX12_play, tyX12, rfl, by decide, by decide, rfl, rfl, hts, hi12, hts (.fieldLink RX12 335 "HillArmsModel" "lastJudged" "I") (by decide +kernel), tyX12_ok, nmX12, rfl, by decide +kernel⟩
  have r87 : ha_Fp s ([.ref (ad p0), .int p1] : List Value).toArray RX12 87 12 53 0 .int := ⟨RX12, TX12, 83, wsX12_play, tyX12, rfl, by decide, by decide, rfl, rfl, hts, hi12, hts (.fieldLink RX12 87 "HillArmsModel" "lastTicks" "I") (by decide +kernel), tyX12_ok, nmX12, rfl, by decide +kernel⟩
  have r326 : ha_Fp s ([.ref (ad p0), .int p1] : List Value).toArray RX12 326 12 54 0 .int := ⟨RX12, TX12, 83, wsX12_play, tyX12, rfl, by decide, by decide, rfl, rfl, hts, hi12, hts (.fieldLink RX12 326 "HillArmsModel" "lastTowers" "I") (by decide +kernel), tyX12_ok, nmX12, rfl, by decide +kernel⟩
  have r138 : ha_Fp s ([.ref (ad p0), .int p1] : List Value).toArray RX12 138 12 0 0 .int := ⟨RX12, TX12, 83, wsX12_play, tyX12, rfl, by decide, by decide, rfl, rfl, hts, hi12, hts (.fieldLink RX12 138 "HillArmsModel" "thrown" "I") (by decide +kernel), tyX12_ok, nmX12, rfl, by decide +kernel⟩
  have r267 : ha_Fp s ([.ref (ad p0), .int p1] : List Value).toArray RX12 267 12 41 0 .int := ⟨RX12, TX12, 83, wsX12_play, tyX12, rfl, by decide, by decide, rfl, rfl, hts, hi12, hts (.fieldLink RX12 267 "HillArmsModel" "moreTick" "I") (by decide +kernel), tyX12_ok, nmX12, rfl, by decide +kernel⟩
  have r273 : ha_Fp s ([.ref (ad p0), .int p1] : List Value).toArray RX12 273 12 43 0 .int := ⟨RX12, TX12, 83, wsX12_play, tyX12, rfl, by decide, by decide, rfl, rfl, hts, hi12, hts (.fieldLink RX12 273 "HillArmsModel" "otherTick" "I") (by decide +kernel), tyX12_ok, nmX12, rfl, by decide +kernel⟩
  have cw0 := cwV (R := (headSpec wsX12_play ({ frames := 4, cells := 0, slots := 0, locals := 95 } : Room)).room) 0 hts gX12_play_X12_judged (rm := ({ frames := 0, cells := 0, slots := 0, locals := 0 } : Room)) (mc := 0) (ms := 0) rfl rfl rfl (by decide +kernel) ⟨Nat.le_of_ble_eq_true rfl, Nat.le_of_ble_eq_true rfl⟩
  have cw1 := va_cwS (R := (headSpec wsX12_play ({ frames := 4, cells := 0, slots := 0, locals := 95 } : Room)).room) 3 hts gX12_play_X12_isIn (rm := ({ frames := 0, cells := 0, slots := 0, locals := 0 } : Room)) (mc := 0) (ms := 0) rfl rfl rfl (by decide +kernel) ⟨Nat.le_of_ble_eq_true rfl, Nat.le_of_ble_eq_true rfl⟩
  have cw2 := cwV (R := (headSpec wsX12_play ({ frames := 4, cells := 0, slots := 0, locals := 95 } : Room)).room) 0 hts gX12_play_X12_begin (rm := ({ frames := 0, cells := 0, slots := 0, locals := 0 } : Room)) (mc := 0) (ms := 0) rfl rfl rfl (by decide +kernel) ⟨Nat.le_of_ble_eq_true rfl, Nat.le_of_ble_eq_true rfl⟩
  have cw3 := cwV (R := (headSpec wsX12_play ({ frames := 4, cells := 0, slots := 0, locals := 95 } : Room)).room) 1 hts gX12_play_X12_step (rm := ({ frames := 3, cells := 0, slots := 0, locals := 73 } : Room)) (mc := 0) (ms := 0) rfl rfl rfl (by decide +kernel) ⟨Nat.le_of_ble_eq_true rfl, Nat.le_of_ble_eq_true rfl⟩
  have hl := lv_entry ([.ref (ad p0), .int p1]) (n := 4) (Nat.le_of_ble_eq_true rfl)
  rw [lg_entry_eq]
  generalize (lg_sl ([.ref (ad p0), .int p1]) ++ List.replicate (4 - (lg_sl ([.ref (ad p0), .int p1])).length) Slot.unset).toArray = ls at hl ⊢
  have hl : lv_has ls 4 [(0, .ref (ad p0)), (1, .int p1)] := hl
  refine (fun (K0 : ∀ (H : Heap) (locs : List Loc), va_P D vwCl (ha_wl cs ad mo_kd mo_ln N S) H → va_S (ha_A ad N) s.heap H locs → W p l e (headSpec wsX12_play ({ frames := 4, cells := 0, slots := 0, locals := 95 } : Room)).room s m ([.ref (ad p0), .int p1] : List Value).toArray below meth c H locs 0 0 (MQ below (va_Qi (fun (r : Int32) (_ : Unit) => r = out.1) (fun _ => ha_H D cs ad mo_kd mo_ln N out.2) (ha_A ad N)) ([.ref (ad p0), .int p1] : List Value).toArray s 0 0 (ha_A ad N)) (F0 m 0 ls [])) => K0 _ _ hP hS) ?_
  intro H locs hP hS
  have hf := ha_rt hf
  have J216 : ∀ (k0 : Nat) (k1 : Int32) (S : ha_St) (H : Heap) (locs : List Loc) (ls : Array Slot), (f_X12_play_J216 p0 p1 k0 k1 S).bind some = some out → mo_kd k0 = 12 → va_P D vwCl (ha_wl cs ad mo_kd mo_ln N S) H → va_D (ha_A ad N) (ha_wl cs ad mo_kd mo_ln N S) → va_S (ha_A ad N) s.heap H locs → lv_has ls 4 [(0, .ref (ad p0)), (1, .int p1)] → W p l e (headSpec wsX12_play ({ frames := 4, cells := 0, slots := 0, locals := 95 } : Room)).room s m ([.ref (ad p0), .int p1] : List Value).toArray below meth c H locs 0 0 (MQ below (va_Qi (fun (r : Int32) (_ : Unit) => r = out.1) (fun _ => ha_H D cs ad mo_kd mo_ln N out.2) (ha_A ad N)) ([.ref (ad p0), .int p1] : List Value).toArray s 0 0 (ha_A ad N)) (F0 m 216 ls [.int k1, .ref (ad k0)]) := by
    intro k0 k1 S H locs ls hf hk0 hP hD hS hl
    unfold f_X12_play_J216 at hf
    refine ha_puti hx hb hown hK hP hD hS r338 hN hk0 dX12_play_216 (fun S1 H locs eS1 hP hD hS => ?_)
    have hf := ha_nms hf eS1
    refine lv_aload_n hx hb dX12_play_219 rfl (lv_at hl 0 rfl) ?_
    refine lv_aload_n hx hb dX12_play_220 rfl (lv_at hl 0 rfl) ?_
    refine ha_geti hx hb hown hK hP q314 hN h0 dX12_play_221 ?_
    refine ha_puti hx hb hown hK hP hD hS r341 hN h0 dX12_play_224 (fun S2 H locs eS2 hP hD hS => ?_)
    have hf := ha_nms hf eS2
    refine lv_aload_n hx hb dX12_play_227 rfl (lv_at hl 0 rfl) ?_
    refine lv_aload_n hx hb dX12_play_228 rfl (lv_at hl 0 rfl) ?_
    refine ha_geti hx hb hown hK hP q285 hN h0 dX12_play_229 ?_
    refine ha_puti hx hb hown hK hP hD hS r344 hN h0 dX12_play_232 (fun S3 H locs eS3 hP hD hS => ?_)
    have hf := ha_nms hf eS3
    refine lv_aload_n hx hb dX12_play_235 rfl (lv_at hl 0 rfl) ?_
    refine ha_geti hx hb hown hK hP q296 hN h0 dX12_play_236 ?_
    have he := Option.some.inj hf
    exact ha_reti hx hb hr hlocks hP hD hS dX12_play_239 (ha_e1 he) (ha_e2 he)
  have J183 : ∀  (S : ha_St) (H : Heap) (locs : List Loc) (ls : Array Slot), (f_X12_play_J183 p0 p1  S).bind some = some out → va_P D vwCl (ha_wl cs ad mo_kd mo_ln N S) H → va_D (ha_A ad N) (ha_wl cs ad mo_kd mo_ln N S) → va_S (ha_A ad N) s.heap H locs → lv_has ls 4 [(0, .ref (ad p0)), (1, .int p1)] → W p l e (headSpec wsX12_play ({ frames := 4, cells := 0, slots := 0, locals := 95 } : Room)).room s m ([.ref (ad p0), .int p1] : List Value).toArray below meth c H locs 0 0 (MQ below (va_Qi (fun (r : Int32) (_ : Unit) => r = out.1) (fun _ => ha_H D cs ad mo_kd mo_ln N out.2) (ha_A ad N)) ([.ref (ad p0), .int p1] : List Value).toArray s 0 0 (ha_A ad N)) (F0 m 183 ls []) := by
    intro  S H locs ls hf  hP hD hS hl
    unfold f_X12_play_J183 at hf
    refine lv_aload_n hx hb dX12_play_183 rfl (lv_at hl 0 rfl) ?_
    refine lv_aload_n hx hb dX12_play_184 rfl (lv_at hl 0 rfl) ?_
    refine ha_geti hx hb hown hK hP q296 hN h0 dX12_play_185 ?_
    refine ha_puti hx hb hown hK hP hD hS r329 hN h0 dX12_play_188 (fun S4 H locs eS4 hP hD hS => ?_)
    have hf := ha_nms hf eS4
    refine lv_aload_n hx hb dX12_play_191 rfl (lv_at hl 0 rfl) ?_
    refine lv_aload_n hx hb dX12_play_192 rfl (lv_at hl 0 rfl) ?_
    obtain ⟨z5, wz5, hf⟩ := ha_bds hf
    refine ha_callVi (As := []) (rest := [.ref (ad p0)]) hZ ⟨hx, hb, hml, hown, hts⟩ hK hz hP hD hS (c_X12_judged hZ hN h0 wz5) cw0 hN h0 (by decide) rfl rfl hl.1 rfl (Nat.le_of_ble_eq_true rfl) dX12_play_193 ⟨Nat.le_of_ble_eq_true rfl, Nat.le_of_ble_eq_true rfl⟩ (fun H locs hP hD hS => ?_)
    refine ha_puti hx hb hown hK hP hD hS r335 hN h0 dX12_play_196 (fun S6 H locs eS6 hP hD hS => ?_)
    have hf := ha_nms hf eS6
    refine lv_aload_n hx hb dX12_play_199 rfl (lv_at hl 0 rfl) ?_
    refine lv_aload_n hx hb dX12_play_200 rfl (lv_at hl 0 rfl) ?_
    refine ha_geti hx hb hown hK hP q335 hN h0 dX12_play_201 ?_
    refine lv_iconst (v := 2) hx hb dX12_play_204 (by decide) ?_
    refine lv_icmp_ne (tgt := 215) hx hb dX12_play_205 (by decide) (fun c7 => ?_) (fun c7 => ?_)
    · have hf := ha_it hf c7
      refine lv_iconst (v := (-1)) hx hb dX12_play_215 (by decide) ?_
      exact J216 p0 (-1) S6 H locs ls hf h0 hP hD hS (lv_sub hl [0, 1] rfl)
    · have hf := ha_if hf (fun q => q c7)
      refine lv_aload_n hx hb dX12_play_208 rfl (lv_at hl 0 rfl) ?_
      refine ha_geti hx hb hown hK hP q317 hN h0 dX12_play_209 ?_
      refine lv_goto (tgt := 216) hx hb dX12_play_212 (by decide) ?_
      exact J216 p0 ((ha_gI S6 p0 48)) S6 H locs ls hf h0 hP hD hS (lv_sub hl [0, 1] rfl)
  have J155 : ∀  (S : ha_St) (H : Heap) (locs : List Loc) (ls : Array Slot), (f_X12_play_J155 p0 p1  S).bind some = some out → va_P D vwCl (ha_wl cs ad mo_kd mo_ln N S) H → va_D (ha_A ad N) (ha_wl cs ad mo_kd mo_ln N S) → va_S (ha_A ad N) s.heap H locs → lv_has ls 4 [(0, .ref (ad p0)), (1, .int p1)] → W p l e (headSpec wsX12_play ({ frames := 4, cells := 0, slots := 0, locals := 95 } : Room)).room s m ([.ref (ad p0), .int p1] : List Value).toArray below meth c H locs 0 0 (MQ below (va_Qi (fun (r : Int32) (_ : Unit) => r = out.1) (fun _ => ha_H D cs ad mo_kd mo_ln N out.2) (ha_A ad N)) ([.ref (ad p0), .int p1] : List Value).toArray s 0 0 (ha_A ad N)) (F0 m 155 ls []) := by
    intro  S H locs ls hf  hP hD hS hl
    unfold f_X12_play_J155 at hf
    refine lv_iconst (v := 0) hx hb dX12_play_155 (by decide) ?_
    refine lv_istore_n (lv' := [(2, .int 0), (0, .ref (ad p0)), (1, .int p1)]) hx hb dX12_play_156 rfl hl (by decide) rfl (fun ls hl => ?_)
    have key15 : ∀ (K : (ha_St) → Option (Int32 × ha_St)), (∀  (S : ha_St) (H : Heap) (locs : List Loc) (ls : Array Slot), K S = some out → va_P D vwCl (ha_wl cs ad mo_kd mo_ln N S) H → va_D (ha_A ad N) (ha_wl cs ad mo_kd mo_ln N S) → va_S (ha_A ad N) s.heap H locs → lv_has ls 4 [(0, .ref (ad p0)), (1, .int p1)] → W p l e (headSpec wsX12_play ({ frames := 4, cells := 0, slots := 0, locals := 95 } : Room)).room s m ([.ref (ad p0), .int p1] : List Value).toArray below meth c H locs 0 0 (MQ below (va_Qi (fun (r : Int32) (_ : Unit) => r = out.1) (fun _ => ha_H D cs ad mo_kd mo_ln N out.2) (ha_A ad N)) ([.ref (ad p0), .int p1] : List Value).toArray s 0 0 (ha_A ad N)) (F0 m 183 ls [])) → ∀ (n : Nat) (v2 : Int32) (S : ha_St) (H : Heap) (locs : List Loc) (ls : Array Slot), (f_X12_play_L157i p0 p1 n (v2, S)).bind K = some out → va_P D vwCl (ha_wl cs ad mo_kd mo_ln N S) H → va_D (ha_A ad N) (ha_wl cs ad mo_kd mo_ln N S) → va_S (ha_A ad N) s.heap H locs → lv_has ls 4 [(0, .ref (ad p0)), (1, .int p1), (2, .int v2)] → W p l e (headSpec wsX12_play ({ frames := 4, cells := 0, slots := 0, locals := 95 } : Room)).room s m ([.ref (ad p0), .int p1] : List Value).toArray below meth c H locs 0 0 (MQ below (va_Qi (fun (r : Int32) (_ : Unit) => r = out.1) (fun _ => ha_H D cs ad mo_kd mo_ln N out.2) (ha_A ad N)) ([.ref (ad p0), .int p1] : List Value).toArray s 0 0 (ha_A ad N)) (F0 m 157 ls []) := by
      intro K hk n
      induction n with
      | zero =>
        intro v2 S H locs ls hf
        exact absurd (show (none : Option (Int32 × ha_St)) = some out from hf) (fun h => by cases h)
      | succ n ih =>
        intro v2 S H locs ls hf  hP hD hS hl
        have hf : (f_X12_play_L157 p0 p1 (f_X12_play_L157i p0 p1 n) v2 S).bind K = some out := hf
        unfold f_X12_play_L157 at hf
        refine lv_iload_n hx hb dX12_play_157 rfl (lv_at hl 2 rfl) ?_
        refine lv_aload_n hx hb dX12_play_158 rfl (lv_at hl 0 rfl) ?_
        refine ha_geti hx hb hown hK hP q296 hN h0 dX12_play_159 ?_
        refine lv_icmp_ge (tgt := 183) hx hb dX12_play_162 (by decide) (fun c8 => ?_) (fun c8 => ?_)
        · have hf := ha_it hf c8
          exact hk  S H locs ls hf  hP hD hS (lv_sub hl [0, 1] rfl)
        · have hf := ha_if hf c8
          refine lv_aload_n hx hb dX12_play_165 rfl (lv_at hl 0 rfl) ?_
          obtain ⟨r9, wr9, hf⟩ := ha_bds hf
          obtain ⟨wr9, hr9⟩ := ha_rf_some wr9
          refine ha_getr hx hb hown hK hP q84 hN h0 wr9 dX12_play_166 ?_
          refine lv_iload_n hx hb dX12_play_169 rfl (lv_at hl 2 rfl) ?_
          refine lv_aload_n hx hb dX12_play_170 rfl (lv_at hl 0 rfl) ?_
          obtain ⟨r10, wr10, hf⟩ := ha_bds hf
          obtain ⟨wr10, hr10⟩ := ha_rf_some wr10
          refine ha_getr hx hb hown hK hP q68 hN h0 wr10 dX12_play_171 ?_
          refine lv_iload_n hx hb dX12_play_174 rfl (lv_at hl 2 rfl) ?_
          obtain ⟨g11, hf⟩ := ha_gds hf
          refine ha_iald hx hb hK hP hN hr10 g11 dX12_play_175 ?_
          obtain ⟨g12, hf⟩ := ha_gds hf
          refine ha_iast hx hb hK hP hD hS hN hr9 g12 dX12_play_176 (fun S13 H locs eS13 hP hD hS => ?_)
          have hf := ha_nms hf eS13
          obtain ⟨x14, ex14⟩ : ∃ y : Int32, y = (v2 : Int32) + 1 := ⟨_, rfl⟩
          have hf := ha_nms hf ex14
          refine lv_iinc (v := x14) (lv' := [(2, .int x14), (0, .ref (ad p0)), (1, .int p1)]) hx hb dX12_play_177 hl (k := 2) rfl (by rw [ex14]; rfl) (by decide) rfl (fun ls hl => ?_)
          refine lv_goto (tgt := 157) hx hb dX12_play_180 (by decide) ?_
          exact ih x14 S13 H locs ls hf  hP hD hS (lv_sub hl [1, 2, 0] rfl)
    refine key15 _ (fun  S H locs ls hf  hP hD hS hl => ?_) ha_fu 0 S H locs ls (ha_as hf)  hP hD hS (lv_sub hl [1, 2, 0] rfl)
    have hf : (f_X12_play_J183 p0 p1  S).bind some = some out := hf
    exact J183  S H locs ls hf  hP hD hS (lv_sub hl [0, 1] rfl)
  have J127 : ∀  (S : ha_St) (H : Heap) (locs : List Loc) (ls : Array Slot), (f_X12_play_J127 p0 p1  S).bind some = some out → va_P D vwCl (ha_wl cs ad mo_kd mo_ln N S) H → va_D (ha_A ad N) (ha_wl cs ad mo_kd mo_ln N S) → va_S (ha_A ad N) s.heap H locs → lv_has ls 4 [(0, .ref (ad p0)), (1, .int p1)] → W p l e (headSpec wsX12_play ({ frames := 4, cells := 0, slots := 0, locals := 95 } : Room)).room s m ([.ref (ad p0), .int p1] : List Value).toArray below meth c H locs 0 0 (MQ below (va_Qi (fun (r : Int32) (_ : Unit) => r = out.1) (fun _ => ha_H D cs ad mo_kd mo_ln N out.2) (ha_A ad N)) ([.ref (ad p0), .int p1] : List Value).toArray s 0 0 (ha_A ad N)) (F0 m 127 ls []) := by
    intro  S H locs ls hf  hP hD hS hl
    unfold f_X12_play_J127 at hf
    refine lv_iconst (v := 0) hx hb dX12_play_127 (by decide) ?_
    refine lv_istore_n (lv' := [(2, .int 0), (0, .ref (ad p0)), (1, .int p1)]) hx hb dX12_play_128 rfl hl (by decide) rfl (fun ls hl => ?_)
    have key24 : ∀ (K : (ha_St) → Option (Int32 × ha_St)), (∀  (S : ha_St) (H : Heap) (locs : List Loc) (ls : Array Slot), K S = some out → va_P D vwCl (ha_wl cs ad mo_kd mo_ln N S) H → va_D (ha_A ad N) (ha_wl cs ad mo_kd mo_ln N S) → va_S (ha_A ad N) s.heap H locs → lv_has ls 4 [(0, .ref (ad p0)), (1, .int p1)] → W p l e (headSpec wsX12_play ({ frames := 4, cells := 0, slots := 0, locals := 95 } : Room)).room s m ([.ref (ad p0), .int p1] : List Value).toArray below meth c H locs 0 0 (MQ below (va_Qi (fun (r : Int32) (_ : Unit) => r = out.1) (fun _ => ha_H D cs ad mo_kd mo_ln N out.2) (ha_A ad N)) ([.ref (ad p0), .int p1] : List Value).toArray s 0 0 (ha_A ad N)) (F0 m 155 ls [])) → ∀ (n : Nat) (v2 : Int32) (S : ha_St) (H : Heap) (locs : List Loc) (ls : Array Slot), (f_X12_play_L129i p0 p1 n (v2, S)).bind K = some out → va_P D vwCl (ha_wl cs ad mo_kd mo_ln N S) H → va_D (ha_A ad N) (ha_wl cs ad mo_kd mo_ln N S) → va_S (ha_A ad N) s.heap H locs → lv_has ls 4 [(0, .ref (ad p0)), (1, .int p1), (2, .int v2)] → W p l e (headSpec wsX12_play ({ frames := 4, cells := 0, slots := 0, locals := 95 } : Room)).room s m ([.ref (ad p0), .int p1] : List Value).toArray below meth c H locs 0 0 (MQ below (va_Qi (fun (r : Int32) (_ : Unit) => r = out.1) (fun _ => ha_H D cs ad mo_kd mo_ln N out.2) (ha_A ad N)) ([.ref (ad p0), .int p1] : List Value).toArray s 0 0 (ha_A ad N)) (F0 m 129 ls []) := by
      intro K hk n
      induction n with
      | zero =>
        intro v2 S H locs ls hf
        exact absurd (show (none : Option (Int32 × ha_St)) = some out from hf) (fun h => by cases h)
      | succ n ih =>
        intro v2 S H locs ls hf  hP hD hS hl
        have hf : (f_X12_play_L129 p0 p1 (f_X12_play_L129i p0 p1 n) v2 S).bind K = some out := hf
        unfold f_X12_play_L129 at hf
        refine lv_iload_n hx hb dX12_play_129 rfl (lv_at hl 2 rfl) ?_
        refine lv_aload_n hx hb dX12_play_130 rfl (lv_at hl 0 rfl) ?_
        refine ha_geti hx hb hown hK hP q13 hN h0 dX12_play_131 ?_
        refine lv_icmp_ge (tgt := 155) hx hb dX12_play_134 (by decide) (fun c17 => ?_) (fun c17 => ?_)
        · have hf := ha_it hf c17
          exact hk  S H locs ls hf  hP hD hS (lv_sub hl [0, 1] rfl)
        · have hf := ha_if hf c17
          refine lv_aload_n hx hb dX12_play_137 rfl (lv_at hl 0 rfl) ?_
          obtain ⟨r18, wr18, hf⟩ := ha_bds hf
          obtain ⟨wr18, hr18⟩ := ha_rf_some wr18
          refine ha_getr hx hb hown hK hP q81 hN h0 wr18 dX12_play_138 ?_
          refine lv_iload_n hx hb dX12_play_141 rfl (lv_at hl 2 rfl) ?_
          refine lv_aload_n hx hb dX12_play_142 rfl (lv_at hl 0 rfl) ?_
          obtain ⟨r19, wr19, hf⟩ := ha_bds hf
          obtain ⟨wr19, hr19⟩ := ha_rf_some wr19
          refine ha_getr hx hb hown hK hP q65 hN h0 wr19 dX12_play_143 ?_
          refine lv_iload_n hx hb dX12_play_146 rfl (lv_at hl 2 rfl) ?_
          obtain ⟨g20, hf⟩ := ha_gds hf
          refine ha_iald hx hb hK hP hN hr19 g20 dX12_play_147 ?_
          obtain ⟨g21, hf⟩ := ha_gds hf
          refine ha_iast hx hb hK hP hD hS hN hr18 g21 dX12_play_148 (fun S22 H locs eS22 hP hD hS => ?_)
          have hf := ha_nms hf eS22
          obtain ⟨x23, ex23⟩ : ∃ y : Int32, y = (v2 : Int32) + 1 := ⟨_, rfl⟩
          have hf := ha_nms hf ex23
          refine lv_iinc (v := x23) (lv' := [(2, .int x23), (0, .ref (ad p0)), (1, .int p1)]) hx hb dX12_play_149 hl (k := 2) rfl (by rw [ex23]; rfl) (by decide) rfl (fun ls hl => ?_)
          refine lv_goto (tgt := 129) hx hb dX12_play_152 (by decide) ?_
          exact ih x23 S22 H locs ls hf  hP hD hS (lv_sub hl [1, 2, 0] rfl)
    refine key24 _ (fun  S H locs ls hf  hP hD hS hl => ?_) ha_fu 0 S H locs ls (ha_as hf)  hP hD hS (lv_sub hl [1, 2, 0] rfl)
    have hf : (f_X12_play_J155 p0 p1  S).bind some = some out := hf
    exact J155  S H locs ls hf  hP hD hS (lv_sub hl [0, 1] rfl)
  have J88 : ∀  (S : ha_St) (H : Heap) (locs : List Loc) (ls : Array Slot), (f_X12_play_J88 p0 p1  S).bind some = some out → va_P D vwCl (ha_wl cs ad mo_kd mo_ln N S) H → va_D (ha_A ad N) (ha_wl cs ad mo_kd mo_ln N S) → va_S (ha_A ad N) s.heap H locs → lv_has ls 4 [(0, .ref (ad p0)), (1, .int p1)] → W p l e (headSpec wsX12_play ({ frames := 4, cells := 0, slots := 0, locals := 95 } : Room)).room s m ([.ref (ad p0), .int p1] : List Value).toArray below meth c H locs 0 0 (MQ below (va_Qi (fun (r : Int32) (_ : Unit) => r = out.1) (fun _ => ha_H D cs ad mo_kd mo_ln N out.2) (ha_A ad N)) ([.ref (ad p0), .int p1] : List Value).toArray s 0 0 (ha_A ad N)) (F0 m 88 ls []) := by
    intro  S H locs ls hf  hP hD hS hl
    unfold f_X12_play_J88 at hf
    refine lv_aload_n hx hb dX12_play_88 rfl (lv_at hl 0 rfl) ?_
    refine lv_iload_n hx hb dX12_play_89 rfl (lv_at hl 1 rfl) ?_
    refine ha_puti hx hb hown hK hP hD hS r87 hN h0 dX12_play_90 (fun S26 H locs eS26 hP hD hS => ?_)
    have hf := ha_nms hf eS26
    refine lv_aload_n hx hb dX12_play_93 rfl (lv_at hl 0 rfl) ?_
    refine lv_aload_n hx hb dX12_play_94 rfl (lv_at hl 0 rfl) ?_
    refine ha_geti hx hb hown hK hP q13 hN h0 dX12_play_95 ?_
    refine ha_puti hx hb hown hK hP hD hS r326 hN h0 dX12_play_98 (fun S27 H locs eS27 hP hD hS => ?_)
    have hf := ha_nms hf eS27
    refine lv_iconst (v := 0) hx hb dX12_play_101 (by decide) ?_
    refine lv_istore_n (lv' := [(2, .int 0), (0, .ref (ad p0)), (1, .int p1)]) hx hb dX12_play_102 rfl hl (by decide) rfl (fun ls hl => ?_)
    have key35 : ∀ (K : (ha_St) → Option (Int32 × ha_St)), (∀  (S : ha_St) (H : Heap) (locs : List Loc) (ls : Array Slot), K S = some out → va_P D vwCl (ha_wl cs ad mo_kd mo_ln N S) H → va_D (ha_A ad N) (ha_wl cs ad mo_kd mo_ln N S) → va_S (ha_A ad N) s.heap H locs → lv_has ls 4 [(0, .ref (ad p0)), (1, .int p1)] → W p l e (headSpec wsX12_play ({ frames := 4, cells := 0, slots := 0, locals := 95 } : Room)).room s m ([.ref (ad p0), .int p1] : List Value).toArray below meth c H locs 0 0 (MQ below (va_Qi (fun (r : Int32) (_ : Unit) => r = out.1) (fun _ => ha_H D cs ad mo_kd mo_ln N out.2) (ha_A ad N)) ([.ref (ad p0), .int p1] : List Value).toArray s 0 0 (ha_A ad N)) (F0 m 127 ls [])) → ∀ (n : Nat) (v2 : Int32) (S : ha_St) (H : Heap) (locs : List Loc) (ls : Array Slot), (f_X12_play_L103i p0 p1 n (v2, S)).bind K = some out → va_P D vwCl (ha_wl cs ad mo_kd mo_ln N S) H → va_D (ha_A ad N) (ha_wl cs ad mo_kd mo_ln N S) → va_S (ha_A ad N) s.heap H locs → lv_has ls 4 [(0, .ref (ad p0)), (1, .int p1), (2, .int v2)] → W p l e (headSpec wsX12_play ({ frames := 4, cells := 0, slots := 0, locals := 95 } : Room)).room s m ([.ref (ad p0), .int p1] : List Value).toArray below meth c H locs 0 0 (MQ below (va_Qi (fun (r : Int32) (_ : Unit) => r = out.1) (fun _ => ha_H D cs ad mo_kd mo_ln N out.2) (ha_A ad N)) ([.ref (ad p0), .int p1] : List Value).toArray s 0 0 (ha_A ad N)) (F0 m 103 ls []) := by
      intro K hk n
      induction n with
      | zero =>
        intro v2 S H locs ls hf
        exact absurd (show (none : Option (Int32 × ha_St)) = some out from hf) (fun h => by cases h)
      | succ n ih =>
        intro v2 S H locs ls hf  hP hD hS hl
        have hf : (f_X12_play_L103 p0 p1 (f_X12_play_L103i p0 p1 n) v2 S).bind K = some out := hf
        unfold f_X12_play_L103 at hf
        refine lv_iload_n hx hb dX12_play_103 rfl (lv_at hl 2 rfl) ?_
        refine lv_bipush (v := 64) hx hb dX12_play_104 (by decide) ?_
        refine lv_icmp_ge (tgt := 127) hx hb dX12_play_106 (by decide) (fun c28 => ?_) (fun c28 => ?_)
        · have hf := ha_it hf c28
          exact hk  S H locs ls hf  hP hD hS (lv_sub hl [0, 1] rfl)
        · have hf := ha_if hf c28
          refine lv_aload_n hx hb dX12_play_109 rfl (lv_at hl 0 rfl) ?_
          obtain ⟨r29, wr29, hf⟩ := ha_bds hf
          obtain ⟨wr29, hr29⟩ := ha_rf_some wr29
          refine ha_getr hx hb hown hK hP q78 hN h0 wr29 dX12_play_110 ?_
          refine lv_iload_n hx hb dX12_play_113 rfl (lv_at hl 2 rfl) ?_
          refine lv_aload_n hx hb dX12_play_114 rfl (lv_at hl 0 rfl) ?_
          obtain ⟨r30, wr30, hf⟩ := ha_bds hf
          obtain ⟨wr30, hr30⟩ := ha_rf_some wr30
          refine ha_getr hx hb hown hK hP q62 hN h0 wr30 dX12_play_115 ?_
          refine lv_iload_n hx hb dX12_play_118 rfl (lv_at hl 2 rfl) ?_
          obtain ⟨g31, hf⟩ := ha_gds hf
          refine ha_iald hx hb hK hP hN hr30 g31 dX12_play_119 ?_
          obtain ⟨g32, hf⟩ := ha_gds hf
          refine ha_iast hx hb hK hP hD hS hN hr29 g32 dX12_play_120 (fun S33 H locs eS33 hP hD hS => ?_)
          have hf := ha_nms hf eS33
          obtain ⟨x34, ex34⟩ : ∃ y : Int32, y = (v2 : Int32) + 1 := ⟨_, rfl⟩
          have hf := ha_nms hf ex34
          refine lv_iinc (v := x34) (lv' := [(2, .int x34), (0, .ref (ad p0)), (1, .int p1)]) hx hb dX12_play_121 hl (k := 2) rfl (by rw [ex34]; rfl) (by decide) rfl (fun ls hl => ?_)
          refine lv_goto (tgt := 103) hx hb dX12_play_124 (by decide) ?_
          exact ih x34 S33 H locs ls hf  hP hD hS (lv_sub hl [1, 2, 0] rfl)
    refine key35 _ (fun  S H locs ls hf  hP hD hS hl => ?_) ha_fu 0 S27 H locs ls (ha_as hf)  hP hD hS (lv_sub hl [1, 2, 0] rfl)
    have hf : (f_X12_play_J127 p0 p1  S).bind some = some out := hf
    exact J127  S H locs ls hf  hP hD hS (lv_sub hl [0, 1] rfl)
  unfold f_X12_play at hf
  refine lv_aload_n hx hb dX12_play_0 rfl (lv_at hl 0 rfl) ?_
  refine lv_iconst (v := 0) hx hb dX12_play_1 (by decide) ?_
  refine ha_puti hx hb hown hK hP hD hS r138 hN h0 dX12_play_2 (fun S37 H locs eS37 hP hD hS => ?_)
  have hf := ha_nms hf eS37
  refine lv_iload_n hx hb dX12_play_5 rfl (lv_at hl 1 rfl) ?_
  refine lv_iconst (v := 0) hx hb dX12_play_6 (by decide) ?_
  refine lv_sipush (v := 500) hx hb dX12_play_7 (by decide) ?_
  obtain ⟨z38, wz38, hf⟩ := ha_bds hf
  refine ha_callSi (As := [.int p1, .int 0, .int 500]) (rest := []) hZ ⟨hx, hb, hml, hown, hts⟩ hK hz hP hD hS (c_X12_isIn   wz38) cw1 rfl hl.1 rfl (Nat.le_of_ble_eq_true rfl) dX12_play_10 ⟨Nat.le_of_ble_eq_true rfl, Nat.le_of_ble_eq_true rfl⟩ (fun H locs hP hD hS => ?_)
  refine lv_if_ne (tgt := 18) hx hb dX12_play_13 (by decide) (fun c39 => ?_) (fun c39 => ?_)
  · have hf := ha_it hf c39
    refine lv_aload_n hx hb dX12_play_18 rfl (lv_at hl 0 rfl) ?_
    refine lv_iconst (v := 0) hx hb dX12_play_19 (by decide) ?_
    refine ha_puti hx hb hown hK hP hD hS r267 hN h0 dX12_play_20 (fun S40 H locs eS40 hP hD hS => ?_)
    have hf := ha_nms hf eS40
    refine lv_aload_n hx hb dX12_play_23 rfl (lv_at hl 0 rfl) ?_
    refine lv_iconst (v := 0) hx hb dX12_play_24 (by decide) ?_
    refine ha_puti hx hb hown hK hP hD hS r273 hN h0 dX12_play_25 (fun S41 H locs eS41 hP hD hS => ?_)
    have hf := ha_nms hf eS41
    refine lv_aload_n hx hb dX12_play_28 rfl (lv_at hl 0 rfl) ?_
    obtain ⟨z42, wz42, hf⟩ := ha_bds hf
    refine ha_callVv (As := []) (rest := []) hZ ⟨hx, hb, hml, hown, hts⟩ hK hz hP hD hS (c_X12_begin hZ hN h0 wz42) cw2 hN h0 (by decide) rfl rfl hl.1 rfl (Nat.le_of_ble_eq_true rfl) dX12_play_29 ⟨Nat.le_of_ble_eq_true rfl, Nat.le_of_ble_eq_true rfl⟩ (fun H locs hP hD hS => ?_)
    refine lv_iconst (v := 0) hx hb dX12_play_32 (by decide) ?_
    refine lv_istore_n (lv' := [(2, .int 0), (0, .ref (ad p0)), (1, .int p1)]) hx hb dX12_play_33 rfl hl (by decide) rfl (fun ls hl => ?_)
    have key56 : ∀ (K : (ha_St) → Option (Int32 × ha_St)), (∀  (S : ha_St) (H : Heap) (locs : List Loc) (ls : Array Slot), K S = some out → va_P D vwCl (ha_wl cs ad mo_kd mo_ln N S) H → va_D (ha_A ad N) (ha_wl cs ad mo_kd mo_ln N S) → va_S (ha_A ad N) s.heap H locs → lv_has ls 4 [(0, .ref (ad p0)), (1, .int p1)] → W p l e (headSpec wsX12_play ({ frames := 4, cells := 0, slots := 0, locals := 95 } : Room)).room s m ([.ref (ad p0), .int p1] : List Value).toArray below meth c H locs 0 0 (MQ below (va_Qi (fun (r : Int32) (_ : Unit) => r = out.1) (fun _ => ha_H D cs ad mo_kd mo_ln N out.2) (ha_A ad N)) ([.ref (ad p0), .int p1] : List Value).toArray s 0 0 (ha_A ad N)) (F0 m 88 ls [])) → ∀ (n : Nat) (v2 : Int32) (S : ha_St) (H : Heap) (locs : List Loc) (ls : Array Slot), (f_X12_play_L34i p0 p1 n (v2, S)).bind K = some out → va_P D vwCl (ha_wl cs ad mo_kd mo_ln N S) H → va_D (ha_A ad N) (ha_wl cs ad mo_kd mo_ln N S) → va_S (ha_A ad N) s.heap H locs → lv_has ls 4 [(0, .ref (ad p0)), (1, .int p1), (2, .int v2)] → W p l e (headSpec wsX12_play ({ frames := 4, cells := 0, slots := 0, locals := 95 } : Room)).room s m ([.ref (ad p0), .int p1] : List Value).toArray below meth c H locs 0 0 (MQ below (va_Qi (fun (r : Int32) (_ : Unit) => r = out.1) (fun _ => ha_H D cs ad mo_kd mo_ln N out.2) (ha_A ad N)) ([.ref (ad p0), .int p1] : List Value).toArray s 0 0 (ha_A ad N)) (F0 m 34 ls []) := by
      intro K hk n
      induction n with
      | zero =>
        intro v2 S H locs ls hf
        exact absurd (show (none : Option (Int32 × ha_St)) = some out from hf) (fun h => by cases h)
      | succ n ih =>
        intro v2 S H locs ls hf  hP hD hS hl
        have J82 : ∀ (v2 : Int32) (S : ha_St) (H : Heap) (locs : List Loc) (ls : Array Slot), (f_X12_play_L34_J82 p0 p1 (f_X12_play_L34i p0 p1 n) v2 S).bind K = some out → va_P D vwCl (ha_wl cs ad mo_kd mo_ln N S) H → va_D (ha_A ad N) (ha_wl cs ad mo_kd mo_ln N S) → va_S (ha_A ad N) s.heap H locs → lv_has ls 4 [(0, .ref (ad p0)), (1, .int p1), (2, .int v2)] → W p l e (headSpec wsX12_play ({ frames := 4, cells := 0, slots := 0, locals := 95 } : Room)).room s m ([.ref (ad p0), .int p1] : List Value).toArray below meth c H locs 0 0 (MQ below (va_Qi (fun (r : Int32) (_ : Unit) => r = out.1) (fun _ => ha_H D cs ad mo_kd mo_ln N out.2) (ha_A ad N)) ([.ref (ad p0), .int p1] : List Value).toArray s 0 0 (ha_A ad N)) (F0 m 82 ls []) := by
          intro v2 S H locs ls hf  hP hD hS hl
          unfold f_X12_play_L34_J82 at hf
          obtain ⟨x43, ex43⟩ : ∃ y : Int32, y = (v2 : Int32) + 1 := ⟨_, rfl⟩
          have hf := ha_nms hf ex43
          refine lv_iinc (v := x43) (lv' := [(2, .int x43), (0, .ref (ad p0)), (1, .int p1)]) hx hb dX12_play_82 hl (k := 2) rfl (by rw [ex43]; rfl) (by decide) rfl (fun ls hl => ?_)
          refine lv_goto (tgt := 34) hx hb dX12_play_85 (by decide) ?_
          exact ih x43 S H locs ls hf  hP hD hS (lv_sub hl [1, 2, 0] rfl)
        have J48 : ∀ (v2 : Int32) (S : ha_St) (H : Heap) (locs : List Loc) (ls : Array Slot), (f_X12_play_L34_J48 p0 p1 (f_X12_play_L34i p0 p1 n) v2 S).bind K = some out → va_P D vwCl (ha_wl cs ad mo_kd mo_ln N S) H → va_D (ha_A ad N) (ha_wl cs ad mo_kd mo_ln N S) → va_S (ha_A ad N) s.heap H locs → lv_has ls 4 [(0, .ref (ad p0)), (1, .int p1), (2, .int v2)] → W p l e (headSpec wsX12_play ({ frames := 4, cells := 0, slots := 0, locals := 95 } : Room)).room s m ([.ref (ad p0), .int p1] : List Value).toArray below meth c H locs 0 0 (MQ below (va_Qi (fun (r : Int32) (_ : Unit) => r = out.1) (fun _ => ha_H D cs ad mo_kd mo_ln N out.2) (ha_A ad N)) ([.ref (ad p0), .int p1] : List Value).toArray s 0 0 (ha_A ad N)) (F0 m 48 ls []) := by
          intro v2 S H locs ls hf  hP hD hS hl
          unfold f_X12_play_L34_J48 at hf
          refine lv_iconst (v := 0) hx hb dX12_play_48 (by decide) ?_
          refine lv_istore_n (lv' := [(3, .int 0), (0, .ref (ad p0)), (1, .int p1), (2, .int v2)]) hx hb dX12_play_49 rfl hl (by decide) rfl (fun ls hl => ?_)
          have key51 : ∀ (K : (Int32 × ha_St) → Option (Int32 × ha_St)), (∀ (v2 : Int32) (S : ha_St) (H : Heap) (locs : List Loc) (ls : Array Slot), K (v2, S) = some out → va_P D vwCl (ha_wl cs ad mo_kd mo_ln N S) H → va_D (ha_A ad N) (ha_wl cs ad mo_kd mo_ln N S) → va_S (ha_A ad N) s.heap H locs → lv_has ls 4 [(0, .ref (ad p0)), (1, .int p1), (2, .int v2)] → W p l e (headSpec wsX12_play ({ frames := 4, cells := 0, slots := 0, locals := 95 } : Room)).room s m ([.ref (ad p0), .int p1] : List Value).toArray below meth c H locs 0 0 (MQ below (va_Qi (fun (r : Int32) (_ : Unit) => r = out.1) (fun _ => ha_H D cs ad mo_kd mo_ln N out.2) (ha_A ad N)) ([.ref (ad p0), .int p1] : List Value).toArray s 0 0 (ha_A ad N)) (F0 m 82 ls [])) → ∀ (n : Nat) (v2 : Int32) (v3 : Int32) (S : ha_St) (H : Heap) (locs : List Loc) (ls : Array Slot), (f_X12_play_L50i p0 p1 n (v2, v3, S)).bind K = some out → va_P D vwCl (ha_wl cs ad mo_kd mo_ln N S) H → va_D (ha_A ad N) (ha_wl cs ad mo_kd mo_ln N S) → va_S (ha_A ad N) s.heap H locs → lv_has ls 4 [(0, .ref (ad p0)), (1, .int p1), (2, .int v2), (3, .int v3)] → W p l e (headSpec wsX12_play ({ frames := 4, cells := 0, slots := 0, locals := 95 } : Room)).room s m ([.ref (ad p0), .int p1] : List Value).toArray below meth c H locs 0 0 (MQ below (va_Qi (fun (r : Int32) (_ : Unit) => r = out.1) (fun _ => ha_H D cs ad mo_kd mo_ln N out.2) (ha_A ad N)) ([.ref (ad p0), .int p1] : List Value).toArray s 0 0 (ha_A ad N)) (F0 m 50 ls []) := by
            intro K hk n
            induction n with
            | zero =>
              intro v2 v3 S H locs ls hf
              exact absurd (show (none : Option (Int32 × ha_St)) = some out from hf) (fun h => by cases h)
            | succ n ih =>
              intro v2 v3 S H locs ls hf  hP hD hS hl
              have hf : (f_X12_play_L50 p0 p1 (f_X12_play_L50i p0 p1 n) v2 v3 S).bind K = some out := hf
              unfold f_X12_play_L50 at hf
              refine lv_iload_n hx hb dX12_play_50 rfl (lv_at hl 3 rfl) ?_
              refine lv_aload_n hx hb dX12_play_51 rfl (lv_at hl 0 rfl) ?_
              refine ha_geti hx hb hown hK hP q13 hN h0 dX12_play_52 ?_
              refine lv_icmp_ge (tgt := 82) hx hb dX12_play_55 (by decide) (fun c44 => ?_) (fun c44 => ?_)
              · have hf := ha_it hf c44
                exact hk v2 S H locs ls hf  hP hD hS (lv_sub hl [0, 1, 2] rfl)
              · have hf := ha_if hf c44
                refine lv_aload_n hx hb dX12_play_58 rfl (lv_at hl 0 rfl) ?_
                obtain ⟨r45, wr45, hf⟩ := ha_bds hf
                obtain ⟨wr45, hr45⟩ := ha_rf_some wr45
                refine ha_getr hx hb hown hK hP q74 hN h0 wr45 dX12_play_59 ?_
                refine lv_bipush (v := 16) hx hb dX12_play_62 (by decide) ?_
                refine lv_iload_n hx hb dX12_play_64 rfl (lv_at hl 2 rfl) ?_
                refine lv_imul hx hb dX12_play_65 ?_
                refine lv_iload_n hx hb dX12_play_66 rfl (lv_at hl 3 rfl) ?_
                refine lv_iadd hx hb dX12_play_67 ?_
                refine lv_aload_n hx hb dX12_play_68 rfl (lv_at hl 0 rfl) ?_
                obtain ⟨r46, wr46, hf⟩ := ha_bds hf
                obtain ⟨wr46, hr46⟩ := ha_rf_some wr46
                refine ha_getr hx hb hown hK hP q56 hN h0 wr46 dX12_play_69 ?_
                refine lv_iload_n hx hb dX12_play_72 rfl (lv_at hl 3 rfl) ?_
                obtain ⟨g47, hf⟩ := ha_gds hf
                refine ha_iald hx hb hK hP hN hr46 g47 dX12_play_73 ?_
                refine lv_i2b (v := (((ha_gA S r46 (v3 : Int32).toNatClampNeg) : Int32).toInt8.toInt32)) hx hb dX12_play_74 rfl ?_
                obtain ⟨g48, hf⟩ := ha_gds hf
                refine ha_bast hx hb hK hP hD hS hN hr45 g48 dX12_play_75 (fun S49 H locs eS49 hP hD hS => ?_)
                have hf := ha_nms hf eS49
                obtain ⟨x50, ex50⟩ : ∃ y : Int32, y = (v3 : Int32) + 1 := ⟨_, rfl⟩
                have hf := ha_nms hf ex50
                refine lv_iinc (v := x50) (lv' := [(3, .int x50), (0, .ref (ad p0)), (1, .int p1), (2, .int v2)]) hx hb dX12_play_76 hl (k := 3) rfl (by rw [ex50]; rfl) (by decide) rfl (fun ls hl => ?_)
                refine lv_goto (tgt := 50) hx hb dX12_play_79 (by decide) ?_
                exact ih v2 x50 S49 H locs ls hf  hP hD hS (lv_sub hl [1, 2, 3, 0] rfl)
          refine key51 _ (fun v2 S H locs ls hf  hP hD hS hl => ?_) ha_fu v2 0 S H locs ls (ha_as hf)  hP hD hS (lv_sub hl [1, 2, 3, 0] rfl)
          have hf : (f_X12_play_L34_J82 p0 p1 (f_X12_play_L34i p0 p1 n) v2 S).bind K = some out := hf
          exact J82 v2 S H locs ls hf  hP hD hS (lv_sub hl [0, 1, 2] rfl)
        have hf : (f_X12_play_L34 p0 p1 (f_X12_play_L34i p0 p1 n) v2 S).bind K = some out := hf
        unfold f_X12_play_L34 at hf
        refine lv_iload_n hx hb dX12_play_34 rfl (lv_at hl 2 rfl) ?_
        refine lv_iload_n hx hb dX12_play_35 rfl (lv_at hl 1 rfl) ?_
        refine lv_icmp_gt (tgt := 88) hx hb dX12_play_36 (by decide) (fun c53 => ?_) (fun c53 => ?_)
        · have hf := ha_it hf c53
          exact hk  S H locs ls hf  hP hD hS (lv_sub hl [0, 1] rfl)
        · have hf := ha_if hf c53
          refine lv_iload_n hx hb dX12_play_39 rfl (lv_at hl 2 rfl) ?_
          refine lv_if_le (tgt := 48) hx hb dX12_play_40 (by decide) (fun c54 => ?_) (fun c54 => ?_)
          · have hf := ha_it hf c54
            exact J48 v2 S H locs ls hf  hP hD hS (lv_sub hl [0, 1, 2] rfl)
          · have hf := ha_if hf c54
            refine lv_aload_n hx hb dX12_play_43 rfl (lv_at hl 0 rfl) ?_
            refine lv_iload_n hx hb dX12_play_44 rfl (lv_at hl 2 rfl) ?_
            obtain ⟨z55, wz55, hf⟩ := ha_bds hf
            refine ha_callVv (As := [.int v2]) (rest := []) hZ ⟨hx, hb, hml, hown, hts⟩ hK hz hP hD hS (c_X12_step hZ hN h0 wz55) cw3 hN h0 (by decide) rfl rfl hl.1 rfl (Nat.le_of_ble_eq_true rfl) dX12_play_45 ⟨Nat.le_of_ble_eq_true rfl, Nat.le_of_ble_eq_true rfl⟩ (fun H locs hP hD hS => ?_)
            exact J48 v2 z55 H locs ls hf  hP hD hS (lv_sub hl [0, 1, 2] rfl)
    refine key56 _ (fun  S H locs ls hf  hP hD hS hl => ?_) ha_fu 0 z42 H locs ls (ha_as hf)  hP hD hS (lv_sub hl [1, 2, 0] rfl)
    have hf : (f_X12_play_J88 p0 p1  S).bind some = some out := hf
    exact J88  S H locs ls hf  hP hD hS (lv_sub hl [0, 1] rfl)
  · have hf := ha_if hf (fun q => q c39)
    refine lv_iconst (v := (-1)) hx hb dX12_play_16 (by decide) ?_
    have he := Option.some.inj hf
    exact ha_reti hx hb hr hlocks hP hD hS dX12_play_17 (ha_e1 he) (ha_e2 he)

set_option maxHeartbeats 4000000 in
set_option maxRecDepth 100000 in
theorem c_X12_isPlayed {l : Launch} {D : va_G} {cs : Nat → ClassId} {ad : Nat → Nat} {N : List Nat} {Z : State → Prop} (hZ : ha_Zok (ha_A ad N) Z) (hN : ∀ x, mo_kd x < 999 → x ∈ N) {p0 : Nat} {p1 : Int32} {S : ha_St} {out : Int32 × ha_St} (h0 : mo_kd p0 = 12) (hf : f_X12_isPlayed p0 p1 S = some out) : ha_Ci l D cs ad mo_kd mo_ln N Z yX12_isPlayed wsX12_isPlayed ({ frames := 0, cells := 0, slots := 0, locals := 0 } : Room) [.ref (ad p0), .int p1] S out.1 out.2 := by
  refine Met.ofW (cc := cX12_isPlayed) (maxL := 2) (ret := (some .boolean)) (by decide +kernel) rfl ?_
  intro p e s m args below meth c s₁ B hml hv
  obtain ⟨rfl, hP, hD, hK, hz⟩ := hv
  have hx := B.exec
  have hb := B.bytes
  have hr := B.returns
  have hts := atoms_spec (ws := wsX12_isPlayed) B.pre
  have hown : s.vm.findClass RX12 = some m.cls := findClass_of_methodNamed B.named
  have hlocks := B.notSynchronized
  have hS : va_S (ha_A ad N) s.heap s.heap [] := va_S.rf
  have hi12 : ∀ w ∈ wsX120, w ∈ wsX12_isPlayed := fun w h => List.mem_cons_of_mem _ (List.mem_append_right _ h)
  have q87 : ha_Fk s ([.ref (ad p0), .int p1] : List Value).toArray RX12 87 12 53 0 := ⟨RX12, TX12, 83, wsX12_isPlayed, rfl, by decide, by decide, rfl, rfl, hts, hi12, hts (.fieldLink RX12 87 "HillArmsModel" "lastTicks" "I") (by decide +kernel)⟩
  have q326 : ha_Fk s ([.ref (ad p0), .int p1] : List Value).toArray RX12 326 12 54 0 := ⟨RX12, TX12, 83, wsX12_isPlayed, rfl, by decide, by decide, rfl, rfl, hts, hi12, hts (.fieldLink RX12 326 "HillArmsModel" "lastTowers" "I") (by decide +kernel)⟩
  have hl := lv_entry ([.ref (ad p0), .int p1]) (n := 2) (Nat.le_of_ble_eq_true rfl)
  rw [lg_entry_eq]
  generalize (lg_sl ([.ref (ad p0), .int p1]) ++ List.replicate (2 - (lg_sl ([.ref (ad p0), .int p1])).length) Slot.unset).toArray = ls at hl ⊢
  have hl : lv_has ls 2 [(0, .ref (ad p0)), (1, .int p1)] := hl
  refine (fun (K0 : ∀ (H : Heap) (locs : List Loc), va_P D vwCl (ha_wl cs ad mo_kd mo_ln N S) H → va_S (ha_A ad N) s.heap H locs → W p l e (headSpec wsX12_isPlayed ({ frames := 0, cells := 0, slots := 0, locals := 0 } : Room)).room s m ([.ref (ad p0), .int p1] : List Value).toArray below meth c H locs 0 0 (MQ below (va_Qi (fun (r : Int32) (_ : Unit) => r = out.1) (fun _ => ha_H D cs ad mo_kd mo_ln N out.2) (ha_A ad N)) ([.ref (ad p0), .int p1] : List Value).toArray s 0 0 (ha_A ad N)) (F0 m 0 ls [])) => K0 _ _ hP hS) ?_
  intro H locs hP hS
  have hf := ha_rt hf
  have J25 : ∀ (k0 : Int32) (S : ha_St) (H : Heap) (locs : List Loc) (ls : Array Slot), (f_X12_isPlayed_J25 p0 p1 k0 S).bind some = some out → va_P D vwCl (ha_wl cs ad mo_kd mo_ln N S) H → va_D (ha_A ad N) (ha_wl cs ad mo_kd mo_ln N S) → va_S (ha_A ad N) s.heap H locs → lv_has ls 2 [(0, .ref (ad p0)), (1, .int p1)] → W p l e (headSpec wsX12_isPlayed ({ frames := 0, cells := 0, slots := 0, locals := 0 } : Room)).room s m ([.ref (ad p0), .int p1] : List Value).toArray below meth c H locs 0 0 (MQ below (va_Qi (fun (r : Int32) (_ : Unit) => r = out.1) (fun _ => ha_H D cs ad mo_kd mo_ln N out.2) (ha_A ad N)) ([.ref (ad p0), .int p1] : List Value).toArray s 0 0 (ha_A ad N)) (F0 m 25 ls [.int k0]) := by
    intro k0 S H locs ls hf  hP hD hS hl
    unfold f_X12_isPlayed_J25 at hf
    obtain ⟨g1, hf⟩ := ha_gds hf
    have he := Option.some.inj hf
    exact ha_retz hx hb hr hlocks hP hD hS dX12_isPlayed_25 g1 (ha_e1 he) (ha_e2 he)
  have J24 : ∀  (S : ha_St) (H : Heap) (locs : List Loc) (ls : Array Slot), (f_X12_isPlayed_J24 p0 p1  S).bind some = some out → va_P D vwCl (ha_wl cs ad mo_kd mo_ln N S) H → va_D (ha_A ad N) (ha_wl cs ad mo_kd mo_ln N S) → va_S (ha_A ad N) s.heap H locs → lv_has ls 2 [(0, .ref (ad p0)), (1, .int p1)] → W p l e (headSpec wsX12_isPlayed ({ frames := 0, cells := 0, slots := 0, locals := 0 } : Room)).room s m ([.ref (ad p0), .int p1] : List Value).toArray below meth c H locs 0 0 (MQ below (va_Qi (fun (r : Int32) (_ : Unit) => r = out.1) (fun _ => ha_H D cs ad mo_kd mo_ln N out.2) (ha_A ad N)) ([.ref (ad p0), .int p1] : List Value).toArray s 0 0 (ha_A ad N)) (F0 m 24 ls []) := by
    intro  S H locs ls hf  hP hD hS hl
    unfold f_X12_isPlayed_J24 at hf
    refine lv_iconst (v := 0) hx hb dX12_isPlayed_24 (by decide) ?_
    exact J25 0 S H locs ls hf  hP hD hS (lv_sub hl [0, 1] rfl)
  unfold f_X12_isPlayed at hf
  refine lv_aload_n hx hb dX12_isPlayed_0 rfl (lv_at hl 0 rfl) ?_
  refine ha_geti hx hb hown hK hP q87 hN h0 dX12_isPlayed_1 ?_
  refine lv_iconst (v := (-1)) hx hb dX12_isPlayed_4 (by decide) ?_
  refine lv_icmp_eq (tgt := 24) hx hb dX12_isPlayed_5 (by decide) (fun c2 => ?_) (fun c2 => ?_)
  · have hf := ha_it hf c2
    exact J24  S H locs ls hf  hP hD hS (lv_sub hl [0, 1] rfl)
  · have hf := ha_if hf c2
    refine lv_iload_n hx hb dX12_isPlayed_8 rfl (lv_at hl 1 rfl) ?_
    refine lv_if_lt (tgt := 24) hx hb dX12_isPlayed_9 (by decide) (fun c3 => ?_) (fun c3 => ?_)
    · have hf := ha_it hf c3
      exact J24  S H locs ls hf  hP hD hS (lv_sub hl [0, 1] rfl)
    · have hf := ha_if hf c3
      refine lv_iload_n hx hb dX12_isPlayed_12 rfl (lv_at hl 1 rfl) ?_
      refine lv_aload_n hx hb dX12_isPlayed_13 rfl (lv_at hl 0 rfl) ?_
      refine ha_geti hx hb hown hK hP q326 hN h0 dX12_isPlayed_14 ?_
      refine lv_icmp_ge (tgt := 24) hx hb dX12_isPlayed_17 (by decide) (fun c4 => ?_) (fun c4 => ?_)
      · have hf := ha_it hf c4
        exact J24  S H locs ls hf  hP hD hS (lv_sub hl [0, 1] rfl)
      · have hf := ha_if hf c4
        refine lv_iconst (v := 1) hx hb dX12_isPlayed_20 (by decide) ?_
        refine lv_goto (tgt := 25) hx hb dX12_isPlayed_21 (by decide) ?_
        exact J25 1 S H locs ls hf  hP hD hS (lv_sub hl [0, 1] rfl)

set_option maxHeartbeats 4000000 in
set_option maxRecDepth 100000 in
theorem c_X12_shown {l : Launch} {D : va_G} {cs : Nat → ClassId} {ad : Nat → Nat} {N : List Nat} {Z : State → Prop} (hZ : ha_Zok (ha_A ad N) Z) (hN : ∀ x, mo_kd x < 999 → x ∈ N) {p0 : Nat} {p1 : Int32} {p2 : Int32} {S : ha_St} {out : Int32 × ha_St} (h0 : mo_kd p0 = 12) (hf : f_X12_shown p0 p1 p2 S = some out) : ha_Ci l D cs ad mo_kd mo_ln N Z yX12_shown wsX12_shown ({ frames := 1, cells := 0, slots := 0, locals := 22 } : Room) [.ref (ad p0), .int p1, .int p2] S out.1 out.2 := by
  refine Met.ofW (cc := cX12_shown) (maxL := 3) (ret := (some .int)) (by decide +kernel) rfl ?_
  intro p e s m args below meth c s₁ B hml hv
  obtain ⟨rfl, hP, hD, hK, hz⟩ := hv
  have hx := B.exec
  have hb := B.bytes
  have hr := B.returns
  have hts := atoms_spec (ws := wsX12_shown) B.pre
  have hown : s.vm.findClass RX12 = some m.cls := findClass_of_methodNamed B.named
  have hlocks := B.notSynchronized
  have hS : va_S (ha_A ad N) s.heap s.heap [] := va_S.rf
  have hi12 : ∀ w ∈ wsX120, w ∈ wsX12_shown := fun w h => List.mem_cons_of_mem _ (List.mem_append_right _ h)
  have q87 : ha_Fk s ([.ref (ad p0), .int p1, .int p2] : List Value).toArray RX12 87 12 53 0 := ⟨RX12, TX12, 83, wsX12_shown, rfl, by decide, by decide, rfl, rfl, hts, hi12, hts (.fieldLink RX12 87 "HillArmsModel" "lastTicks" "I") (by decide +kernel)⟩
  have q74 : ha_Fk s ([.ref (ad p0), .int p1, .int p2] : List Value).toArray RX12 74 12 49 1 := ⟨RX12, TX12, 83, wsX12_shown, rfl, by decide, by decide, rfl, rfl, hts, hi12, hts (.fieldLink RX12 74 "HillArmsModel" "showed" "[B") (by decide +kernel)⟩
  have r138 : ha_Fp s ([.ref (ad p0), .int p1, .int p2] : List Value).toArray RX12 138 12 0 0 .int := ⟨RX12, TX12, 83, wsX12_shown, tyX12, rfl, by decide, by decide, rfl, rfl, hts, hi12, hts (.fieldLink RX12 138 "HillArmsModel" "thrown" "I") (by decide +kernel), tyX12_ok, nmX12, rfl, by decide +kernel⟩
  have cw0 := cwV (R := (headSpec wsX12_shown ({ frames := 1, cells := 0, slots := 0, locals := 22 } : Room)).room) 1 hts gX12_shown_X12_isPlayed (rm := ({ frames := 0, cells := 0, slots := 0, locals := 0 } : Room)) (mc := 0) (ms := 0) rfl rfl rfl (by decide +kernel) ⟨Nat.le_of_ble_eq_true rfl, Nat.le_of_ble_eq_true rfl⟩
  have cw1 := va_cwS (R := (headSpec wsX12_shown ({ frames := 1, cells := 0, slots := 0, locals := 22 } : Room)).room) 3 hts gX12_shown_X12_isIn (rm := ({ frames := 0, cells := 0, slots := 0, locals := 0 } : Room)) (mc := 0) (ms := 0) rfl rfl rfl (by decide +kernel) ⟨Nat.le_of_ble_eq_true rfl, Nat.le_of_ble_eq_true rfl⟩
  have hl := lv_entry ([.ref (ad p0), .int p1, .int p2]) (n := 3) (Nat.le_of_ble_eq_true rfl)
  rw [lg_entry_eq]
  generalize (lg_sl ([.ref (ad p0), .int p1, .int p2]) ++ List.replicate (3 - (lg_sl ([.ref (ad p0), .int p1, .int p2])).length) Slot.unset).toArray = ls at hl ⊢
  have hl : lv_has ls 3 [(0, .ref (ad p0)), (1, .int p1), (2, .int p2)] := hl
  refine (fun (K0 : ∀ (H : Heap) (locs : List Loc), va_P D vwCl (ha_wl cs ad mo_kd mo_ln N S) H → va_S (ha_A ad N) s.heap H locs → W p l e (headSpec wsX12_shown ({ frames := 1, cells := 0, slots := 0, locals := 22 } : Room)).room s m ([.ref (ad p0), .int p1, .int p2] : List Value).toArray below meth c H locs 0 0 (MQ below (va_Qi (fun (r : Int32) (_ : Unit) => r = out.1) (fun _ => ha_H D cs ad mo_kd mo_ln N out.2) (ha_A ad N)) ([.ref (ad p0), .int p1, .int p2] : List Value).toArray s 0 0 (ha_A ad N)) (F0 m 0 ls [])) => K0 _ _ hP hS) ?_
  intro H locs hP hS
  have hf := ha_rt hf
  have J40 : ∀ (k0 : Int32) (S : ha_St) (H : Heap) (locs : List Loc) (ls : Array Slot), (f_X12_shown_J40 p0 p1 p2 k0 S).bind some = some out → va_P D vwCl (ha_wl cs ad mo_kd mo_ln N S) H → va_D (ha_A ad N) (ha_wl cs ad mo_kd mo_ln N S) → va_S (ha_A ad N) s.heap H locs → lv_has ls 3 [(0, .ref (ad p0)), (1, .int p1), (2, .int p2)] → W p l e (headSpec wsX12_shown ({ frames := 1, cells := 0, slots := 0, locals := 22 } : Room)).room s m ([.ref (ad p0), .int p1, .int p2] : List Value).toArray below meth c H locs 0 0 (MQ below (va_Qi (fun (r : Int32) (_ : Unit) => r = out.1) (fun _ => ha_H D cs ad mo_kd mo_ln N out.2) (ha_A ad N)) ([.ref (ad p0), .int p1, .int p2] : List Value).toArray s 0 0 (ha_A ad N)) (F0 m 40 ls [.int k0]) := by
    intro k0 S H locs ls hf  hP hD hS hl
    unfold f_X12_shown_J40 at hf
    have he := Option.some.inj hf
    exact ha_reti hx hb hr hlocks hP hD hS dX12_shown_40 (ha_e1 he) (ha_e2 he)
  have J39 : ∀  (S : ha_St) (H : Heap) (locs : List Loc) (ls : Array Slot), (f_X12_shown_J39 p0 p1 p2  S).bind some = some out → va_P D vwCl (ha_wl cs ad mo_kd mo_ln N S) H → va_D (ha_A ad N) (ha_wl cs ad mo_kd mo_ln N S) → va_S (ha_A ad N) s.heap H locs → lv_has ls 3 [(0, .ref (ad p0)), (1, .int p1), (2, .int p2)] → W p l e (headSpec wsX12_shown ({ frames := 1, cells := 0, slots := 0, locals := 22 } : Room)).room s m ([.ref (ad p0), .int p1, .int p2] : List Value).toArray below meth c H locs 0 0 (MQ below (va_Qi (fun (r : Int32) (_ : Unit) => r = out.1) (fun _ => ha_H D cs ad mo_kd mo_ln N out.2) (ha_A ad N)) ([.ref (ad p0), .int p1, .int p2] : List Value).toArray s 0 0 (ha_A ad N)) (F0 m 39 ls []) := by
    intro  S H locs ls hf  hP hD hS hl
    unfold f_X12_shown_J39 at hf
    refine lv_iconst (v := (-1)) hx hb dX12_shown_39 (by decide) ?_
    exact J40 (-1) S H locs ls hf  hP hD hS (lv_sub hl [0, 1, 2] rfl)
  unfold f_X12_shown at hf
  refine lv_aload_n hx hb dX12_shown_0 rfl (lv_at hl 0 rfl) ?_
  refine lv_iconst (v := 0) hx hb dX12_shown_1 (by decide) ?_
  refine ha_puti hx hb hown hK hP hD hS r138 hN h0 dX12_shown_2 (fun S1 H locs eS1 hP hD hS => ?_)
  have hf := ha_nms hf eS1
  refine lv_aload_n hx hb dX12_shown_5 rfl (lv_at hl 0 rfl) ?_
  refine lv_iload_n hx hb dX12_shown_6 rfl (lv_at hl 1 rfl) ?_
  obtain ⟨z2, wz2, hf⟩ := ha_bds hf
  refine ha_callVi (As := [.int p1]) (rest := []) hZ ⟨hx, hb, hml, hown, hts⟩ hK hz hP hD hS (c_X12_isPlayed hZ hN h0 wz2) cw0 hN h0 (by decide) rfl rfl hl.1 rfl (Nat.le_of_ble_eq_true rfl) dX12_shown_7 ⟨Nat.le_of_ble_eq_true rfl, Nat.le_of_ble_eq_true rfl⟩ (fun H locs hP hD hS => ?_)
  refine lv_if_eq (tgt := 39) hx hb dX12_shown_10 (by decide) (fun c3 => ?_) (fun c3 => ?_)
  · have hf := ha_it hf c3
    exact J39  z2.2 H locs ls hf  hP hD hS (lv_sub hl [0, 1, 2] rfl)
  · have hf := ha_if hf c3
    refine lv_iload_n hx hb dX12_shown_13 rfl (lv_at hl 2 rfl) ?_
    refine lv_iconst (v := 0) hx hb dX12_shown_14 (by decide) ?_
    refine lv_aload_n hx hb dX12_shown_15 rfl (lv_at hl 0 rfl) ?_
    refine ha_geti hx hb hown hK hP q87 hN h0 dX12_shown_16 ?_
    obtain ⟨z4, wz4, hf⟩ := ha_bds hf
    refine ha_callSi (As := [.int p2, .int 0, .int ((ha_gI z2.2 p0 53))]) (rest := []) hZ ⟨hx, hb, hml, hown, hts⟩ hK hz hP hD hS (c_X12_isIn   wz4) cw1 rfl hl.1 rfl (Nat.le_of_ble_eq_true rfl) dX12_shown_19 ⟨Nat.le_of_ble_eq_true rfl, Nat.le_of_ble_eq_true rfl⟩ (fun H locs hP hD hS => ?_)
    refine lv_if_eq (tgt := 39) hx hb dX12_shown_22 (by decide) (fun c5 => ?_) (fun c5 => ?_)
    · have hf := ha_it hf c5
      exact J39  z2.2 H locs ls hf  hP hD hS (lv_sub hl [0, 1, 2] rfl)
    · have hf := ha_if hf c5
      refine lv_aload_n hx hb dX12_shown_25 rfl (lv_at hl 0 rfl) ?_
      obtain ⟨r6, wr6, hf⟩ := ha_bds hf
      obtain ⟨wr6, hr6⟩ := ha_rf_some wr6
      refine ha_getr hx hb hown hK hP q74 hN h0 wr6 dX12_shown_26 ?_
      refine lv_bipush (v := 16) hx hb dX12_shown_29 (by decide) ?_
      refine lv_iload_n hx hb dX12_shown_31 rfl (lv_at hl 2 rfl) ?_
      refine lv_imul hx hb dX12_shown_32 ?_
      refine lv_iload_n hx hb dX12_shown_33 rfl (lv_at hl 1 rfl) ?_
      refine lv_iadd hx hb dX12_shown_34 ?_
      obtain ⟨g7, hf⟩ := ha_gds hf
      refine ha_bald hx hb hK hP hN hr6 g7 dX12_shown_35 ?_
      refine lv_goto (tgt := 40) hx hb dX12_shown_36 (by decide) ?_
      exact J40 ((ha_gA z2.2 r6 (((((16 : Int32) * p2) : Int32) + p1) : Int32).toNatClampNeg)) z2.2 H locs ls hf  hP hD hS (lv_sub hl [0, 1, 2] rfl)

set_option maxHeartbeats 4000000 in
set_option maxRecDepth 100000 in
theorem c_X12_cell {l : Launch} {D : va_G} {cs : Nat → ClassId} {ad : Nat → Nat} {N : List Nat} {Z : State → Prop} (hZ : ha_Zok (ha_A ad N) Z) (hN : ∀ x, mo_kd x < 999 → x ∈ N) {p0 : Nat} {p1 : Int32} {p2 : Int32} {S : ha_St} {out : Int32 × ha_St} (h0 : mo_kd p0 = 12) (hf : f_X12_cell p0 p1 p2 S = some out) : ha_Ci l D cs ad mo_kd mo_ln N Z yX12_cell wsX12_cell ({ frames := 1, cells := 0, slots := 0, locals := 22 } : Room) [.ref (ad p0), .int p1, .int p2] S out.1 out.2 := by
  refine Met.ofW (cc := cX12_cell) (maxL := 3) (ret := (some .int)) (by decide +kernel) rfl ?_
  intro p e s m args below meth c s₁ B hml hv
  obtain ⟨rfl, hP, hD, hK, hz⟩ := hv
  have hx := B.exec
  have hb := B.bytes
  have hr := B.returns
  have hts := atoms_spec (ws := wsX12_cell) B.pre
  have hown : s.vm.findClass RX12 = some m.cls := findClass_of_methodNamed B.named
  have hlocks := B.notSynchronized
  have hS : va_S (ha_A ad N) s.heap s.heap [] := va_S.rf
  have hi12 : ∀ w ∈ wsX120, w ∈ wsX12_cell := fun w h => List.mem_cons_of_mem _ (List.mem_append_right _ h)
  have q78 : ha_Fk s ([.ref (ad p0), .int p1, .int p2] : List Value).toArray RX12 78 12 50 1 := ⟨RX12, TX12, 83, wsX12_cell, rfl, by decide, by decide, rfl, rfl, hts, hi12, hts (.fieldLink RX12 78 "HillArmsModel" "lastCells" "[I") (by decide +kernel)⟩
  have q81 : ha_Fk s ([.ref (ad p0), .int p1, .int p2] : List Value).toArray RX12 81 12 51 1 := ⟨RX12, TX12, 83, wsX12_cell, rfl, by decide, by decide, rfl, rfl, hts, hi12, hts (.fieldLink RX12 81 "HillArmsModel" "lastTimes" "[I") (by decide +kernel)⟩
  have r138 : ha_Fp s ([.ref (ad p0), .int p1, .int p2] : List Value).toArray RX12 138 12 0 0 .int := ⟨RX12, TX12, 83, wsX12_cell, tyX12, rfl, by decide, by decide, rfl, rfl, hts, hi12, hts (.fieldLink RX12 138 "HillArmsModel" "thrown" "I") (by decide +kernel), tyX12_ok, nmX12, rfl, by decide +kernel⟩
  have cw0 := cwV (R := (headSpec wsX12_cell ({ frames := 1, cells := 0, slots := 0, locals := 22 } : Room)).room) 1 hts gX12_cell_X12_isPlayed (rm := ({ frames := 0, cells := 0, slots := 0, locals := 0 } : Room)) (mc := 0) (ms := 0) rfl rfl rfl (by decide +kernel) ⟨Nat.le_of_ble_eq_true rfl, Nat.le_of_ble_eq_true rfl⟩
  have cw1 := va_cwS (R := (headSpec wsX12_cell ({ frames := 1, cells := 0, slots := 0, locals := 22 } : Room)).room) 3 hts gX12_cell_X12_isIn (rm := ({ frames := 0, cells := 0, slots := 0, locals := 0 } : Room)) (mc := 0) (ms := 0) rfl rfl rfl (by decide +kernel) ⟨Nat.le_of_ble_eq_true rfl, Nat.le_of_ble_eq_true rfl⟩
  have hl := lv_entry ([.ref (ad p0), .int p1, .int p2]) (n := 3) (Nat.le_of_ble_eq_true rfl)
  rw [lg_entry_eq]
  generalize (lg_sl ([.ref (ad p0), .int p1, .int p2]) ++ List.replicate (3 - (lg_sl ([.ref (ad p0), .int p1, .int p2])).length) Slot.unset).toArray = ls at hl ⊢
  have hl : lv_has ls 3 [(0, .ref (ad p0)), (1, .int p1), (2, .int p2)] := hl
  refine (fun (K0 : ∀ (H : Heap) (locs : List Loc), va_P D vwCl (ha_wl cs ad mo_kd mo_ln N S) H → va_S (ha_A ad N) s.heap H locs → W p l e (headSpec wsX12_cell ({ frames := 1, cells := 0, slots := 0, locals := 22 } : Room)).room s m ([.ref (ad p0), .int p1, .int p2] : List Value).toArray below meth c H locs 0 0 (MQ below (va_Qi (fun (r : Int32) (_ : Unit) => r = out.1) (fun _ => ha_H D cs ad mo_kd mo_ln N out.2) (ha_A ad N)) ([.ref (ad p0), .int p1, .int p2] : List Value).toArray s 0 0 (ha_A ad N)) (F0 m 0 ls [])) => K0 _ _ hP hS) ?_
  intro H locs hP hS
  have hf := ha_rt hf
  have J48 : ∀ (k0 : Int32) (S : ha_St) (H : Heap) (locs : List Loc) (ls : Array Slot), (f_X12_cell_J48 p0 p1 p2 k0 S).bind some = some out → va_P D vwCl (ha_wl cs ad mo_kd mo_ln N S) H → va_D (ha_A ad N) (ha_wl cs ad mo_kd mo_ln N S) → va_S (ha_A ad N) s.heap H locs → lv_has ls 3 [(0, .ref (ad p0)), (1, .int p1), (2, .int p2)] → W p l e (headSpec wsX12_cell ({ frames := 1, cells := 0, slots := 0, locals := 22 } : Room)).room s m ([.ref (ad p0), .int p1, .int p2] : List Value).toArray below meth c H locs 0 0 (MQ below (va_Qi (fun (r : Int32) (_ : Unit) => r = out.1) (fun _ => ha_H D cs ad mo_kd mo_ln N out.2) (ha_A ad N)) ([.ref (ad p0), .int p1, .int p2] : List Value).toArray s 0 0 (ha_A ad N)) (F0 m 48 ls [.int k0]) := by
    intro k0 S H locs ls hf  hP hD hS hl
    unfold f_X12_cell_J48 at hf
    have he := Option.some.inj hf
    exact ha_reti hx hb hr hlocks hP hD hS dX12_cell_48 (ha_e1 he) (ha_e2 he)
  have J22 : ∀  (S : ha_St) (H : Heap) (locs : List Loc) (ls : Array Slot), (f_X12_cell_J22 p0 p1 p2  S).bind some = some out → va_P D vwCl (ha_wl cs ad mo_kd mo_ln N S) H → va_D (ha_A ad N) (ha_wl cs ad mo_kd mo_ln N S) → va_S (ha_A ad N) s.heap H locs → lv_has ls 3 [(0, .ref (ad p0)), (1, .int p1), (2, .int p2)] → W p l e (headSpec wsX12_cell ({ frames := 1, cells := 0, slots := 0, locals := 22 } : Room)).room s m ([.ref (ad p0), .int p1, .int p2] : List Value).toArray below meth c H locs 0 0 (MQ below (va_Qi (fun (r : Int32) (_ : Unit) => r = out.1) (fun _ => ha_H D cs ad mo_kd mo_ln N out.2) (ha_A ad N)) ([.ref (ad p0), .int p1, .int p2] : List Value).toArray s 0 0 (ha_A ad N)) (F0 m 22 ls []) := by
    intro  S H locs ls hf  hP hD hS hl
    unfold f_X12_cell_J22 at hf
    refine lv_iconst (v := (-1)) hx hb dX12_cell_22 (by decide) ?_
    have he := Option.some.inj hf
    exact ha_reti hx hb hr hlocks hP hD hS dX12_cell_23 (ha_e1 he) (ha_e2 he)
  unfold f_X12_cell at hf
  refine lv_aload_n hx hb dX12_cell_0 rfl (lv_at hl 0 rfl) ?_
  refine lv_iconst (v := 0) hx hb dX12_cell_1 (by decide) ?_
  refine ha_puti hx hb hown hK hP hD hS r138 hN h0 dX12_cell_2 (fun S1 H locs eS1 hP hD hS => ?_)
  have hf := ha_nms hf eS1
  refine lv_aload_n hx hb dX12_cell_5 rfl (lv_at hl 0 rfl) ?_
  refine lv_iload_n hx hb dX12_cell_6 rfl (lv_at hl 1 rfl) ?_
  obtain ⟨z2, wz2, hf⟩ := ha_bds hf
  refine ha_callVi (As := [.int p1]) (rest := []) hZ ⟨hx, hb, hml, hown, hts⟩ hK hz hP hD hS (c_X12_isPlayed hZ hN h0 wz2) cw0 hN h0 (by decide) rfl rfl hl.1 rfl (Nat.le_of_ble_eq_true rfl) dX12_cell_7 ⟨Nat.le_of_ble_eq_true rfl, Nat.le_of_ble_eq_true rfl⟩ (fun H locs hP hD hS => ?_)
  refine lv_if_eq (tgt := 22) hx hb dX12_cell_10 (by decide) (fun c3 => ?_) (fun c3 => ?_)
  · have hf := ha_it hf c3
    exact J22  z2.2 H locs ls hf  hP hD hS (lv_sub hl [0, 1, 2] rfl)
  · have hf := ha_if hf c3
    refine lv_iload_n hx hb dX12_cell_13 rfl (lv_at hl 2 rfl) ?_
    refine lv_iconst (v := 0) hx hb dX12_cell_14 (by decide) ?_
    refine lv_iconst (v := 4) hx hb dX12_cell_15 (by decide) ?_
    obtain ⟨z4, wz4, hf⟩ := ha_bds hf
    refine ha_callSi (As := [.int p2, .int 0, .int 4]) (rest := []) hZ ⟨hx, hb, hml, hown, hts⟩ hK hz hP hD hS (c_X12_isIn   wz4) cw1 rfl hl.1 rfl (Nat.le_of_ble_eq_true rfl) dX12_cell_16 ⟨Nat.le_of_ble_eq_true rfl, Nat.le_of_ble_eq_true rfl⟩ (fun H locs hP hD hS => ?_)
    refine lv_if_ne (tgt := 24) hx hb dX12_cell_19 (by decide) (fun c5 => ?_) (fun c5 => ?_)
    · have hf := ha_it hf c5
      refine lv_iload_n hx hb dX12_cell_24 rfl (lv_at hl 2 rfl) ?_
      refine lv_iconst (v := 4) hx hb dX12_cell_25 (by decide) ?_
      refine lv_icmp_ne (tgt := 38) hx hb dX12_cell_26 (by decide) (fun c6 => ?_) (fun c6 => ?_)
      · have hf := ha_it hf c6
        refine lv_aload_n hx hb dX12_cell_38 rfl (lv_at hl 0 rfl) ?_
        obtain ⟨r7, wr7, hf⟩ := ha_bds hf
        obtain ⟨wr7, hr7⟩ := ha_rf_some wr7
        refine ha_getr hx hb hown hK hP q78 hN h0 wr7 dX12_cell_39 ?_
        refine lv_iconst (v := 4) hx hb dX12_cell_42 (by decide) ?_
        refine lv_iload_n hx hb dX12_cell_43 rfl (lv_at hl 1 rfl) ?_
        refine lv_imul hx hb dX12_cell_44 ?_
        refine lv_iload_n hx hb dX12_cell_45 rfl (lv_at hl 2 rfl) ?_
        refine lv_iadd hx hb dX12_cell_46 ?_
        obtain ⟨g8, hf⟩ := ha_gds hf
        refine ha_iald hx hb hK hP hN hr7 g8 dX12_cell_47 ?_
        exact J48 ((ha_gA z2.2 r7 (((((4 : Int32) * p1) : Int32) + p2) : Int32).toNatClampNeg)) z2.2 H locs ls hf  hP hD hS (lv_sub hl [0, 1, 2] rfl)
      · have hf := ha_if hf (fun q => q c6)
        refine lv_aload_n hx hb dX12_cell_29 rfl (lv_at hl 0 rfl) ?_
        obtain ⟨r9, wr9, hf⟩ := ha_bds hf
        obtain ⟨wr9, hr9⟩ := ha_rf_some wr9
        refine ha_getr hx hb hown hK hP q81 hN h0 wr9 dX12_cell_30 ?_
        refine lv_iload_n hx hb dX12_cell_33 rfl (lv_at hl 1 rfl) ?_
        obtain ⟨g10, hf⟩ := ha_gds hf
        refine ha_iald hx hb hK hP hN hr9 g10 dX12_cell_34 ?_
        refine lv_goto (tgt := 48) hx hb dX12_cell_35 (by decide) ?_
        exact J48 ((ha_gA z2.2 r9 (p1 : Int32).toNatClampNeg)) z2.2 H locs ls hf  hP hD hS (lv_sub hl [0, 1, 2] rfl)
    · have hf := ha_if hf (fun q => q c5)
      exact J22  z2.2 H locs ls hf  hP hD hS (lv_sub hl [0, 1, 2] rfl)

set_option maxHeartbeats 4000000 in
set_option maxRecDepth 100000 in
theorem c_X12_written {l : Launch} {D : va_G} {cs : Nat → ClassId} {ad : Nat → Nat} {N : List Nat} {Z : State → Prop} (hZ : ha_Zok (ha_A ad N) Z) (hN : ∀ x, mo_kd x < 999 → x ∈ N) {p0 : Nat} {p1 : Int32} {S : ha_St} {out : Int32 × ha_St} (h0 : mo_kd p0 = 12) (hf : f_X12_written p0 p1 S = some out) : ha_Ci l D cs ad mo_kd mo_ln N Z yX12_written wsX12_written ({ frames := 0, cells := 0, slots := 0, locals := 0 } : Room) [.ref (ad p0), .int p1] S out.1 out.2 := by
  refine Met.ofW (cc := cX12_written) (maxL := 2) (ret := (some .int)) (by decide +kernel) rfl ?_
  intro p e s m args below meth c s₁ B hml hv
  obtain ⟨rfl, hP, hD, hK, hz⟩ := hv
  have hx := B.exec
  have hb := B.bytes
  have hr := B.returns
  have hts := atoms_spec (ws := wsX12_written) B.pre
  have hown : s.vm.findClass RX12 = some m.cls := findClass_of_methodNamed B.named
  have hlocks := B.notSynchronized
  have hS : va_S (ha_A ad N) s.heap s.heap [] := va_S.rf
  have hi12 : ∀ w ∈ wsX120, w ∈ wsX12_written := fun w h => List.mem_cons_of_mem _ (List.mem_append_right _ h)
  have q87 : ha_Fk s ([.ref (ad p0), .int p1] : List Value).toArray RX12 87 12 53 0 := ⟨RX12, TX12, 83, wsX12_written, rfl, by decide, by decide, rfl, rfl, hts, hi12, hts (.fieldLink RX12 87 "HillArmsModel" "lastTicks" "I") (by decide +kernel)⟩
  have q329 : ha_Fk s ([.ref (ad p0), .int p1] : List Value).toArray RX12 329 12 55 0 := ⟨RX12, TX12, 83, wsX12_written, rfl, by decide, by decide, rfl, rfl, hts, hi12, hts (.fieldLink RX12 329 "HillArmsModel" "lastMany" "I") (by decide +kernel)⟩
  have q84 : ha_Fk s ([.ref (ad p0), .int p1] : List Value).toArray RX12 84 12 52 1 := ⟨RX12, TX12, 83, wsX12_written, rfl, by decide, by decide, rfl, rfl, hts, hi12, hts (.fieldLink RX12 84 "HillArmsModel" "lastWrote" "[I") (by decide +kernel)⟩
  have r138 : ha_Fp s ([.ref (ad p0), .int p1] : List Value).toArray RX12 138 12 0 0 .int := ⟨RX12, TX12, 83, wsX12_written, tyX12, rfl, by decide, by decide, rfl, rfl, hts, hi12, hts (.fieldLink RX12 138 "HillArmsModel" "thrown" "I") (by decide +kernel), tyX12_ok, nmX12, rfl, by decide +kernel⟩
  have hl := lv_entry ([.ref (ad p0), .int p1]) (n := 2) (Nat.le_of_ble_eq_true rfl)
  rw [lg_entry_eq]
  generalize (lg_sl ([.ref (ad p0), .int p1]) ++ List.replicate (2 - (lg_sl ([.ref (ad p0), .int p1])).length) Slot.unset).toArray = ls at hl ⊢
  have hl : lv_has ls 2 [(0, .ref (ad p0)), (1, .int p1)] := hl
  refine (fun (K0 : ∀ (H : Heap) (locs : List Loc), va_P D vwCl (ha_wl cs ad mo_kd mo_ln N S) H → va_S (ha_A ad N) s.heap H locs → W p l e (headSpec wsX12_written ({ frames := 0, cells := 0, slots := 0, locals := 0 } : Room)).room s m ([.ref (ad p0), .int p1] : List Value).toArray below meth c H locs 0 0 (MQ below (va_Qi (fun (r : Int32) (_ : Unit) => r = out.1) (fun _ => ha_H D cs ad mo_kd mo_ln N out.2) (ha_A ad N)) ([.ref (ad p0), .int p1] : List Value).toArray s 0 0 (ha_A ad N)) (F0 m 0 ls [])) => K0 _ _ hP hS) ?_
  intro H locs hP hS
  have hf := ha_rt hf
  have J35 : ∀ (k0 : Int32) (S : ha_St) (H : Heap) (locs : List Loc) (ls : Array Slot), (f_X12_written_J35 p0 p1 k0 S).bind some = some out → va_P D vwCl (ha_wl cs ad mo_kd mo_ln N S) H → va_D (ha_A ad N) (ha_wl cs ad mo_kd mo_ln N S) → va_S (ha_A ad N) s.heap H locs → lv_has ls 2 [(0, .ref (ad p0)), (1, .int p1)] → W p l e (headSpec wsX12_written ({ frames := 0, cells := 0, slots := 0, locals := 0 } : Room)).room s m ([.ref (ad p0), .int p1] : List Value).toArray below meth c H locs 0 0 (MQ below (va_Qi (fun (r : Int32) (_ : Unit) => r = out.1) (fun _ => ha_H D cs ad mo_kd mo_ln N out.2) (ha_A ad N)) ([.ref (ad p0), .int p1] : List Value).toArray s 0 0 (ha_A ad N)) (F0 m 35 ls [.int k0]) := by
    intro k0 S H locs ls hf  hP hD hS hl
    unfold f_X12_written_J35 at hf
    have he := Option.some.inj hf
    exact ha_reti hx hb hr hlocks hP hD hS dX12_written_35 (ha_e1 he) (ha_e2 he)
  have J34 : ∀  (S : ha_St) (H : Heap) (locs : List Loc) (ls : Array Slot), (f_X12_written_J34 p0 p1  S).bind some = some out → va_P D vwCl (ha_wl cs ad mo_kd mo_ln N S) H → va_D (ha_A ad N) (ha_wl cs ad mo_kd mo_ln N S) → va_S (ha_A ad N) s.heap H locs → lv_has ls 2 [(0, .ref (ad p0)), (1, .int p1)] → W p l e (headSpec wsX12_written ({ frames := 0, cells := 0, slots := 0, locals := 0 } : Room)).room s m ([.ref (ad p0), .int p1] : List Value).toArray below meth c H locs 0 0 (MQ below (va_Qi (fun (r : Int32) (_ : Unit) => r = out.1) (fun _ => ha_H D cs ad mo_kd mo_ln N out.2) (ha_A ad N)) ([.ref (ad p0), .int p1] : List Value).toArray s 0 0 (ha_A ad N)) (F0 m 34 ls []) := by
    intro  S H locs ls hf  hP hD hS hl
    unfold f_X12_written_J34 at hf
    refine lv_iconst (v := (-1)) hx hb dX12_written_34 (by decide) ?_
    exact J35 (-1) S H locs ls hf  hP hD hS (lv_sub hl [0, 1] rfl)
  unfold f_X12_written at hf
  refine lv_aload_n hx hb dX12_written_0 rfl (lv_at hl 0 rfl) ?_
  refine lv_iconst (v := 0) hx hb dX12_written_1 (by decide) ?_
  refine ha_puti hx hb hown hK hP hD hS r138 hN h0 dX12_written_2 (fun S1 H locs eS1 hP hD hS => ?_)
  have hf := ha_nms hf eS1
  refine lv_aload_n hx hb dX12_written_5 rfl (lv_at hl 0 rfl) ?_
  refine ha_geti hx hb hown hK hP q87 hN h0 dX12_written_6 ?_
  refine lv_iconst (v := (-1)) hx hb dX12_written_9 (by decide) ?_
  refine lv_icmp_eq (tgt := 34) hx hb dX12_written_10 (by decide) (fun c2 => ?_) (fun c2 => ?_)
  · have hf := ha_it hf c2
    exact J34  S1 H locs ls hf  hP hD hS (lv_sub hl [0, 1] rfl)
  · have hf := ha_if hf c2
    refine lv_iload_n hx hb dX12_written_13 rfl (lv_at hl 1 rfl) ?_
    refine lv_if_lt (tgt := 34) hx hb dX12_written_14 (by decide) (fun c3 => ?_) (fun c3 => ?_)
    · have hf := ha_it hf c3
      exact J34  S1 H locs ls hf  hP hD hS (lv_sub hl [0, 1] rfl)
    · have hf := ha_if hf c3
      refine lv_iload_n hx hb dX12_written_17 rfl (lv_at hl 1 rfl) ?_
      refine lv_aload_n hx hb dX12_written_18 rfl (lv_at hl 0 rfl) ?_
      refine ha_geti hx hb hown hK hP q329 hN h0 dX12_written_19 ?_
      refine lv_icmp_ge (tgt := 34) hx hb dX12_written_22 (by decide) (fun c4 => ?_) (fun c4 => ?_)
      · have hf := ha_it hf c4
        exact J34  S1 H locs ls hf  hP hD hS (lv_sub hl [0, 1] rfl)
      · have hf := ha_if hf c4
        refine lv_aload_n hx hb dX12_written_25 rfl (lv_at hl 0 rfl) ?_
        obtain ⟨r5, wr5, hf⟩ := ha_bds hf
        obtain ⟨wr5, hr5⟩ := ha_rf_some wr5
        refine ha_getr hx hb hown hK hP q84 hN h0 wr5 dX12_written_26 ?_
        refine lv_iload_n hx hb dX12_written_29 rfl (lv_at hl 1 rfl) ?_
        obtain ⟨g6, hf⟩ := ha_gds hf
        refine ha_iald hx hb hK hP hN hr5 g6 dX12_written_30 ?_
        refine lv_goto (tgt := 35) hx hb dX12_written_31 (by decide) ?_
        exact J35 ((ha_gA S1 r5 (p1 : Int32).toNatClampNeg)) S1 H locs ls hf  hP hD hS (lv_sub hl [0, 1] rfl)

set_option maxHeartbeats 4000000 in
set_option maxRecDepth 100000 in
theorem c_X12_played {l : Launch} {D : va_G} {cs : Nat → ClassId} {ad : Nat → Nat} {N : List Nat} {Z : State → Prop} (hZ : ha_Zok (ha_A ad N) Z) (hN : ∀ x, mo_kd x < 999 → x ∈ N) {p0 : Nat} {p1 : Int32} {S : ha_St} {out : Int32 × ha_St} (h0 : mo_kd p0 = 12) (hf : f_X12_played p0 p1 S = some out) : ha_Ci l D cs ad mo_kd mo_ln N Z yX12_played wsX12_played ({ frames := 0, cells := 0, slots := 0, locals := 0 } : Room) [.ref (ad p0), .int p1] S out.1 out.2 := by
  refine Met.ofW (cc := cX12_played) (maxL := 2) (ret := (some .int)) (by decide +kernel) rfl ?_
  intro p e s m args below meth c s₁ B hml hv
  obtain ⟨rfl, hP, hD, hK, hz⟩ := hv
  have hx := B.exec
  have hb := B.bytes
  have hr := B.returns
  have hts := atoms_spec (ws := wsX12_played) B.pre
  have hown : s.vm.findClass RX12 = some m.cls := findClass_of_methodNamed B.named
  have hlocks := B.notSynchronized
  have hS : va_S (ha_A ad N) s.heap s.heap [] := va_S.rf
  have hi12 : ∀ w ∈ wsX120, w ∈ wsX12_played := fun w h => List.mem_cons_of_mem _ (List.mem_append_right _ h)
  have q87 : ha_Fk s ([.ref (ad p0), .int p1] : List Value).toArray RX12 87 12 53 0 := ⟨RX12, TX12, 83, wsX12_played, rfl, by decide, by decide, rfl, rfl, hts, hi12, hts (.fieldLink RX12 87 "HillArmsModel" "lastTicks" "I") (by decide +kernel)⟩
  have q335 : ha_Fk s ([.ref (ad p0), .int p1] : List Value).toArray RX12 335 12 56 0 := ⟨RX12, TX12, 83, wsX12_played, rfl, by decide, by decide, rfl, rfl, hts, hi12, hts (.fieldLink RX12 335 "HillArmsModel" "lastJudged" "I") (by decide +kernel)⟩
  have q338 : ha_Fk s ([.ref (ad p0), .int p1] : List Value).toArray RX12 338 12 57 0 := ⟨RX12, TX12, 83, wsX12_played, rfl, by decide, by decide, rfl, rfl, hts, hi12, hts (.fieldLink RX12 338 "HillArmsModel" "lastWrong" "I") (by decide +kernel)⟩
  have q341 : ha_Fk s ([.ref (ad p0), .int p1] : List Value).toArray RX12 341 12 58 0 := ⟨RX12, TX12, 83, wsX12_played, rfl, by decide, by decide, rfl, rfl, hts, hi12, hts (.fieldLink RX12 341 "HillArmsModel" "lastStill" "I") (by decide +kernel)⟩
  have q344 : ha_Fk s ([.ref (ad p0), .int p1] : List Value).toArray RX12 344 12 59 0 := ⟨RX12, TX12, 83, wsX12_played, rfl, by decide, by decide, rfl, rfl, hts, hi12, hts (.fieldLink RX12 344 "HillArmsModel" "lastSent" "I") (by decide +kernel)⟩
  have r138 : ha_Fp s ([.ref (ad p0), .int p1] : List Value).toArray RX12 138 12 0 0 .int := ⟨RX12, TX12, 83, wsX12_played, tyX12, rfl, by decide, by decide, rfl, rfl, hts, hi12, hts (.fieldLink RX12 138 "HillArmsModel" "thrown" "I") (by decide +kernel), tyX12_ok, nmX12, rfl, by decide +kernel⟩
  have hl := lv_entry ([.ref (ad p0), .int p1]) (n := 2) (Nat.le_of_ble_eq_true rfl)
  rw [lg_entry_eq]
  generalize (lg_sl ([.ref (ad p0), .int p1]) ++ List.replicate (2 - (lg_sl ([.ref (ad p0), .int p1])).length) Slot.unset).toArray = ls at hl ⊢
  have hl : lv_has ls 2 [(0, .ref (ad p0)), (1, .int p1)] := hl
  refine (fun (K0 : ∀ (H : Heap) (locs : List Loc), va_P D vwCl (ha_wl cs ad mo_kd mo_ln N S) H → va_S (ha_A ad N) s.heap H locs → W p l e (headSpec wsX12_played ({ frames := 0, cells := 0, slots := 0, locals := 0 } : Room)).room s m ([.ref (ad p0), .int p1] : List Value).toArray below meth c H locs 0 0 (MQ below (va_Qi (fun (r : Int32) (_ : Unit) => r = out.1) (fun _ => ha_H D cs ad mo_kd mo_ln N out.2) (ha_A ad N)) ([.ref (ad p0), .int p1] : List Value).toArray s 0 0 (ha_A ad N)) (F0 m 0 ls [])) => K0 _ _ hP hS) ?_
  intro H locs hP hS
  have hf := ha_rt hf
  unfold f_X12_played at hf
  refine lv_aload_n hx hb dX12_played_0 rfl (lv_at hl 0 rfl) ?_
  refine lv_iconst (v := 0) hx hb dX12_played_1 (by decide) ?_
  refine ha_puti hx hb hown hK hP hD hS r138 hN h0 dX12_played_2 (fun S1 H locs eS1 hP hD hS => ?_)
  have hf := ha_nms hf eS1
  refine lv_aload_n hx hb dX12_played_5 rfl (lv_at hl 0 rfl) ?_
  refine ha_geti hx hb hown hK hP q87 hN h0 dX12_played_6 ?_
  refine lv_iconst (v := (-1)) hx hb dX12_played_9 (by decide) ?_
  refine lv_icmp_ne (tgt := 15) hx hb dX12_played_10 (by decide) (fun c2 => ?_) (fun c2 => ?_)
  · have hf := ha_it hf c2
    refine lv_iload_n hx hb dX12_played_15 rfl (lv_at hl 1 rfl) ?_
    refine lv_topi (fun xs exs => ?_)
    have hf := ha_nms hf exs
    by_cases cs0 : xs = 0
    · have hf := ha_it hf cs0
      refine ha_tsin (tgt := 48) hx hb dX12_played_16 0 cs0 (by decide) rfl (by decide) ?_
      refine lv_aload_n hx hb dX12_played_48 rfl (lv_at hl 0 rfl) ?_
      refine ha_geti hx hb hown hK hP q335 hN h0 dX12_played_49 ?_
      have he := Option.some.inj hf
      exact ha_reti hx hb hr hlocks hP hD hS dX12_played_52 (ha_e1 he) (ha_e2 he)
    · have hf := ha_if hf cs0
      by_cases cs1 : xs = 1
      · have hf := ha_it hf cs1
        refine ha_tsin (tgt := 53) hx hb dX12_played_16 1 cs1 (by decide) rfl (by decide) ?_
        refine lv_aload_n hx hb dX12_played_53 rfl (lv_at hl 0 rfl) ?_
        refine ha_geti hx hb hown hK hP q338 hN h0 dX12_played_54 ?_
        have he := Option.some.inj hf
        exact ha_reti hx hb hr hlocks hP hD hS dX12_played_57 (ha_e1 he) (ha_e2 he)
      · have hf := ha_if hf cs1
        by_cases cs2 : xs = 2
        · have hf := ha_it hf cs2
          refine ha_tsin (tgt := 58) hx hb dX12_played_16 2 cs2 (by decide) rfl (by decide) ?_
          refine lv_aload_n hx hb dX12_played_58 rfl (lv_at hl 0 rfl) ?_
          refine ha_geti hx hb hown hK hP q341 hN h0 dX12_played_59 ?_
          have he := Option.some.inj hf
          exact ha_reti hx hb hr hlocks hP hD hS dX12_played_62 (ha_e1 he) (ha_e2 he)
        · have hf := ha_if hf cs2
          by_cases cs3 : xs = 3
          · have hf := ha_it hf cs3
            refine ha_tsin (tgt := 63) hx hb dX12_played_16 3 cs3 (by decide) rfl (by decide) ?_
            refine lv_aload_n hx hb dX12_played_63 rfl (lv_at hl 0 rfl) ?_
            refine ha_geti hx hb hown hK hP q344 hN h0 dX12_played_64 ?_
            have he := Option.some.inj hf
            exact ha_reti hx hb hr hlocks hP hD hS dX12_played_67 (ha_e1 he) (ha_e2 he)
          · have hf := ha_if hf cs3
            have ncs0 := lv_neT cs0 (show (0 : Int32).toInt = 0 by decide)
            have ncs1 := lv_neT cs1 (show (1 : Int32).toInt = 1 by decide)
            have ncs2 := lv_neT cs2 (show (2 : Int32).toInt = 2 by decide)
            have ncs3 := lv_neT cs3 (show (3 : Int32).toInt = 3 by decide)
            refine lv_tableOut (tgt := 68) hx hb dX12_played_16 (by omega) (by decide) ?_
            refine lv_iconst (v := (-1)) hx hb dX12_played_68 (by decide) ?_
            have he := Option.some.inj hf
            exact ha_reti hx hb hr hlocks hP hD hS dX12_played_69 (ha_e1 he) (ha_e2 he)
  · have hf := ha_if hf (fun q => q c2)
    refine lv_iconst (v := (-1)) hx hb dX12_played_13 (by decide) ?_
    have he := Option.some.inj hf
    exact ha_reti hx hb hr hlocks hP hD hS dX12_played_14 (ha_e1 he) (ha_e2 he)

set_option maxHeartbeats 4000000 in
set_option maxRecDepth 100000 in
theorem c_X12_isWhole {l : Launch} {D : va_G} {cs : Nat → ClassId} {ad : Nat → Nat} {N : List Nat} {Z : State → Prop} (hZ : ha_Zok (ha_A ad N) Z) (hN : ∀ x, mo_kd x < 999 → x ∈ N) {p0 : Nat} {p1 : Int32} {S : ha_St} {out : Int32 × ha_St} (h0 : mo_kd p0 = 12) (hf : f_X12_isWhole p0 p1 S = some out) : ha_Ci l D cs ad mo_kd mo_ln N Z yX12_isWhole wsX12_isWhole ({ frames := 4, cells := 0, slots := 0, locals := 95 } : Room) [.ref (ad p0), .int p1] S out.1 out.2 := by
  refine Met.ofW (cc := cX12_isWhole) (maxL := 3) (ret := (some .boolean)) (by decide +kernel) rfl ?_
  intro p e s m args below meth c s₁ B hml hv
  obtain ⟨rfl, hP, hD, hK, hz⟩ := hv
  have hx := B.exec
  have hb := B.bytes
  have hr := B.returns
  have hts := atoms_spec (ws := wsX12_isWhole) B.pre
  have hown : s.vm.findClass RX12 = some m.cls := findClass_of_methodNamed B.named
  have hlocks := B.notSynchronized
  have hS : va_S (ha_A ad N) s.heap s.heap [] := va_S.rf
  have cw0 := cwV (R := (headSpec wsX12_isWhole ({ frames := 4, cells := 0, slots := 0, locals := 95 } : Room)).room) 0 hts gX12_isWhole_X12_judged (rm := ({ frames := 0, cells := 0, slots := 0, locals := 0 } : Room)) (mc := 0) (ms := 0) rfl rfl rfl (by decide +kernel) ⟨Nat.le_of_ble_eq_true rfl, Nat.le_of_ble_eq_true rfl⟩
  have cw1 := cwV (R := (headSpec wsX12_isWhole ({ frames := 4, cells := 0, slots := 0, locals := 95 } : Room)).room) 0 hts gX12_isWhole_X12_begin (rm := ({ frames := 0, cells := 0, slots := 0, locals := 0 } : Room)) (mc := 0) (ms := 0) rfl rfl rfl (by decide +kernel) ⟨Nat.le_of_ble_eq_true rfl, Nat.le_of_ble_eq_true rfl⟩
  have cw2 := cwV (R := (headSpec wsX12_isWhole ({ frames := 4, cells := 0, slots := 0, locals := 95 } : Room)).room) 1 hts gX12_isWhole_X12_step (rm := ({ frames := 3, cells := 0, slots := 0, locals := 73 } : Room)) (mc := 0) (ms := 0) rfl rfl rfl (by decide +kernel) ⟨Nat.le_of_ble_eq_true rfl, Nat.le_of_ble_eq_true rfl⟩
  have hl := lv_entry ([.ref (ad p0), .int p1]) (n := 3) (Nat.le_of_ble_eq_true rfl)
  rw [lg_entry_eq]
  generalize (lg_sl ([.ref (ad p0), .int p1]) ++ List.replicate (3 - (lg_sl ([.ref (ad p0), .int p1])).length) Slot.unset).toArray = ls at hl ⊢
  have hl : lv_has ls 3 [(0, .ref (ad p0)), (1, .int p1)] := hl
  refine (fun (K0 : ∀ (H : Heap) (locs : List Loc), va_P D vwCl (ha_wl cs ad mo_kd mo_ln N S) H → va_S (ha_A ad N) s.heap H locs → W p l e (headSpec wsX12_isWhole ({ frames := 4, cells := 0, slots := 0, locals := 95 } : Room)).room s m ([.ref (ad p0), .int p1] : List Value).toArray below meth c H locs 0 0 (MQ below (va_Qi (fun (r : Int32) (_ : Unit) => r = out.1) (fun _ => ha_H D cs ad mo_kd mo_ln N out.2) (ha_A ad N)) ([.ref (ad p0), .int p1] : List Value).toArray s 0 0 (ha_A ad N)) (F0 m 0 ls [])) => K0 _ _ hP hS) ?_
  intro H locs hP hS
  have hf := ha_rt hf
  have J34 : ∀ (k0 : Int32) (S : ha_St) (H : Heap) (locs : List Loc) (ls : Array Slot), (f_X12_isWhole_J34 p0 p1 k0 S).bind some = some out → va_P D vwCl (ha_wl cs ad mo_kd mo_ln N S) H → va_D (ha_A ad N) (ha_wl cs ad mo_kd mo_ln N S) → va_S (ha_A ad N) s.heap H locs → lv_has ls 3 [(0, .ref (ad p0)), (1, .int p1)] → W p l e (headSpec wsX12_isWhole ({ frames := 4, cells := 0, slots := 0, locals := 95 } : Room)).room s m ([.ref (ad p0), .int p1] : List Value).toArray below meth c H locs 0 0 (MQ below (va_Qi (fun (r : Int32) (_ : Unit) => r = out.1) (fun _ => ha_H D cs ad mo_kd mo_ln N out.2) (ha_A ad N)) ([.ref (ad p0), .int p1] : List Value).toArray s 0 0 (ha_A ad N)) (F0 m 34 ls [.int k0]) := by
    intro k0 S H locs ls hf  hP hD hS hl
    unfold f_X12_isWhole_J34 at hf
    obtain ⟨g1, hf⟩ := ha_gds hf
    have he := Option.some.inj hf
    exact ha_retz hx hb hr hlocks hP hD hS dX12_isWhole_34 g1 (ha_e1 he) (ha_e2 he)
  have J22 : ∀  (S : ha_St) (H : Heap) (locs : List Loc) (ls : Array Slot), (f_X12_isWhole_J22 p0 p1  S).bind some = some out → va_P D vwCl (ha_wl cs ad mo_kd mo_ln N S) H → va_D (ha_A ad N) (ha_wl cs ad mo_kd mo_ln N S) → va_S (ha_A ad N) s.heap H locs → lv_has ls 3 [(0, .ref (ad p0)), (1, .int p1)] → W p l e (headSpec wsX12_isWhole ({ frames := 4, cells := 0, slots := 0, locals := 95 } : Room)).room s m ([.ref (ad p0), .int p1] : List Value).toArray below meth c H locs 0 0 (MQ below (va_Qi (fun (r : Int32) (_ : Unit) => r = out.1) (fun _ => ha_H D cs ad mo_kd mo_ln N out.2) (ha_A ad N)) ([.ref (ad p0), .int p1] : List Value).toArray s 0 0 (ha_A ad N)) (F0 m 22 ls []) := by
    intro  S H locs ls hf  hP hD hS hl
    unfold f_X12_isWhole_J22 at hf
    refine lv_aload_n hx hb dX12_isWhole_22 rfl (lv_at hl 0 rfl) ?_
    obtain ⟨z2, wz2, hf⟩ := ha_bds hf
    refine ha_callVi (As := []) (rest := []) hZ ⟨hx, hb, hml, hown, hts⟩ hK hz hP hD hS (c_X12_judged hZ hN h0 wz2) cw0 hN h0 (by decide) rfl rfl hl.1 rfl (Nat.le_of_ble_eq_true rfl) dX12_isWhole_23 ⟨Nat.le_of_ble_eq_true rfl, Nat.le_of_ble_eq_true rfl⟩ (fun H locs hP hD hS => ?_)
    refine lv_if_ne (tgt := 33) hx hb dX12_isWhole_26 (by decide) (fun c3 => ?_) (fun c3 => ?_)
    · have hf := ha_it hf c3
      refine lv_iconst (v := 0) hx hb dX12_isWhole_33 (by decide) ?_
      exact J34 0 z2.2 H locs ls hf  hP hD hS (lv_sub hl [0, 1] rfl)
    · have hf := ha_if hf (fun q => q c3)
      refine lv_iconst (v := 1) hx hb dX12_isWhole_29 (by decide) ?_
      refine lv_goto (tgt := 34) hx hb dX12_isWhole_30 (by decide) ?_
      exact J34 1 z2.2 H locs ls hf  hP hD hS (lv_sub hl [0, 1] rfl)
  unfold f_X12_isWhole at hf
  refine lv_aload_n hx hb dX12_isWhole_0 rfl (lv_at hl 0 rfl) ?_
  obtain ⟨z4, wz4, hf⟩ := ha_bds hf
  refine ha_callVv (As := []) (rest := []) hZ ⟨hx, hb, hml, hown, hts⟩ hK hz hP hD hS (c_X12_begin hZ hN h0 wz4) cw1 hN h0 (by decide) rfl rfl hl.1 rfl (Nat.le_of_ble_eq_true rfl) dX12_isWhole_1 ⟨Nat.le_of_ble_eq_true rfl, Nat.le_of_ble_eq_true rfl⟩ (fun H locs hP hD hS => ?_)
  refine lv_iconst (v := 1) hx hb dX12_isWhole_4 (by decide) ?_
  refine lv_istore_n (lv' := [(2, .int 1), (0, .ref (ad p0)), (1, .int p1)]) hx hb dX12_isWhole_5 rfl hl (by decide) rfl (fun ls hl => ?_)
  have key8 : ∀ (K : (ha_St) → Option (Int32 × ha_St)), (∀  (S : ha_St) (H : Heap) (locs : List Loc) (ls : Array Slot), K S = some out → va_P D vwCl (ha_wl cs ad mo_kd mo_ln N S) H → va_D (ha_A ad N) (ha_wl cs ad mo_kd mo_ln N S) → va_S (ha_A ad N) s.heap H locs → lv_has ls 3 [(0, .ref (ad p0)), (1, .int p1)] → W p l e (headSpec wsX12_isWhole ({ frames := 4, cells := 0, slots := 0, locals := 95 } : Room)).room s m ([.ref (ad p0), .int p1] : List Value).toArray below meth c H locs 0 0 (MQ below (va_Qi (fun (r : Int32) (_ : Unit) => r = out.1) (fun _ => ha_H D cs ad mo_kd mo_ln N out.2) (ha_A ad N)) ([.ref (ad p0), .int p1] : List Value).toArray s 0 0 (ha_A ad N)) (F0 m 22 ls [])) → ∀ (n : Nat) (v2 : Int32) (S : ha_St) (H : Heap) (locs : List Loc) (ls : Array Slot), (f_X12_isWhole_L6i p0 p1 n (v2, S)).bind K = some out → va_P D vwCl (ha_wl cs ad mo_kd mo_ln N S) H → va_D (ha_A ad N) (ha_wl cs ad mo_kd mo_ln N S) → va_S (ha_A ad N) s.heap H locs → lv_has ls 3 [(0, .ref (ad p0)), (1, .int p1), (2, .int v2)] → W p l e (headSpec wsX12_isWhole ({ frames := 4, cells := 0, slots := 0, locals := 95 } : Room)).room s m ([.ref (ad p0), .int p1] : List Value).toArray below meth c H locs 0 0 (MQ below (va_Qi (fun (r : Int32) (_ : Unit) => r = out.1) (fun _ => ha_H D cs ad mo_kd mo_ln N out.2) (ha_A ad N)) ([.ref (ad p0), .int p1] : List Value).toArray s 0 0 (ha_A ad N)) (F0 m 6 ls []) := by
    intro K hk n
    induction n with
    | zero =>
      intro v2 S H locs ls hf
      exact absurd (show (none : Option (Int32 × ha_St)) = some out from hf) (fun h => by cases h)
    | succ n ih =>
      intro v2 S H locs ls hf  hP hD hS hl
      have hf : (f_X12_isWhole_L6 p0 p1 (f_X12_isWhole_L6i p0 p1 n) v2 S).bind K = some out := hf
      unfold f_X12_isWhole_L6 at hf
      refine lv_iload_n hx hb dX12_isWhole_6 rfl (lv_at hl 2 rfl) ?_
      refine lv_iload_n hx hb dX12_isWhole_7 rfl (lv_at hl 1 rfl) ?_
      refine lv_icmp_gt (tgt := 22) hx hb dX12_isWhole_8 (by decide) (fun c5 => ?_) (fun c5 => ?_)
      · have hf := ha_it hf c5
        exact hk  S H locs ls hf  hP hD hS (lv_sub hl [0, 1] rfl)
      · have hf := ha_if hf c5
        refine lv_aload_n hx hb dX12_isWhole_11 rfl (lv_at hl 0 rfl) ?_
        refine lv_iload_n hx hb dX12_isWhole_12 rfl (lv_at hl 2 rfl) ?_
        obtain ⟨z6, wz6, hf⟩ := ha_bds hf
        refine ha_callVv (As := [.int v2]) (rest := []) hZ ⟨hx, hb, hml, hown, hts⟩ hK hz hP hD hS (c_X12_step hZ hN h0 wz6) cw2 hN h0 (by decide) rfl rfl hl.1 rfl (Nat.le_of_ble_eq_true rfl) dX12_isWhole_13 ⟨Nat.le_of_ble_eq_true rfl, Nat.le_of_ble_eq_true rfl⟩ (fun H locs hP hD hS => ?_)
        obtain ⟨x7, ex7⟩ : ∃ y : Int32, y = (v2 : Int32) + 1 := ⟨_, rfl⟩
        have hf := ha_nms hf ex7
        refine lv_iinc (v := x7) (lv' := [(2, .int x7), (0, .ref (ad p0)), (1, .int p1)]) hx hb dX12_isWhole_16 hl (k := 2) rfl (by rw [ex7]; rfl) (by decide) rfl (fun ls hl => ?_)
        refine lv_goto (tgt := 6) hx hb dX12_isWhole_19 (by decide) ?_
        exact ih x7 z6 H locs ls hf  hP hD hS (lv_sub hl [1, 2, 0] rfl)
  refine key8 _ (fun  S H locs ls hf  hP hD hS hl => ?_) ha_fu 1 z4 H locs ls (ha_as hf)  hP hD hS (lv_sub hl [1, 2, 0] rfl)
  have hf : (f_X12_isWhole_J22 p0 p1  S).bind some = some out := hf
  exact J22  S H locs ls hf  hP hD hS (lv_sub hl [0, 1] rfl)

set_option maxHeartbeats 4000000 in
set_option maxRecDepth 100000 in
theorem c_X12_breaks {l : Launch} {D : va_G} {cs : Nat → ClassId} {ad : Nat → Nat} {N : List Nat} {Z : State → Prop} (hZ : ha_Zok (ha_A ad N) Z) (hN : ∀ x, mo_kd x < 999 → x ∈ N) {p0 : Nat} {p1 : Int32} {p2 : Int32} {p3 : Int32} {S : ha_St} {out : Int32 × ha_St} (h0 : mo_kd p0 = 12) (hf : f_X12_breaks p0 p1 p2 p3 S = some out) : ha_Ci l D cs ad mo_kd mo_ln N Z yX12_breaks wsX12_breaks ({ frames := 5, cells := 0, slots := 0, locals := 117 } : Room) [.ref (ad p0), .int p1, .int p2, .int p3] S out.1 out.2 := by
  refine Met.ofW (cc := cX12_breaks) (maxL := 5) (ret := (some .boolean)) (by decide +kernel) rfl ?_
  intro p e s m args below meth c s₁ B hml hv
  obtain ⟨rfl, hP, hD, hK, hz⟩ := hv
  have hx := B.exec
  have hb := B.bytes
  have hr := B.returns
  have hts := atoms_spec (ws := wsX12_breaks) B.pre
  have hown : s.vm.findClass RX12 = some m.cls := findClass_of_methodNamed B.named
  have hlocks := B.notSynchronized
  have hS : va_S (ha_A ad N) s.heap s.heap [] := va_S.rf
  have hi12 : ∀ w ∈ wsX120, w ∈ wsX12_breaks := fun w h => List.mem_cons_of_mem _ (List.mem_append_right _ h)
  have q90 : ha_Fk s ([.ref (ad p0), .int p1, .int p2, .int p3] : List Value).toArray RX12 90 12 60 1 := ⟨RX12, TX12, 83, wsX12_breaks, rfl, by decide, by decide, rfl, rfl, hts, hi12, hts (.fieldLink RX12 90 "HillArmsModel" "brokenTick" "[I") (by decide +kernel)⟩
  have q267 : ha_Fk s ([.ref (ad p0), .int p1, .int p2, .int p3] : List Value).toArray RX12 267 12 41 0 := ⟨RX12, TX12, 83, wsX12_breaks, rfl, by decide, by decide, rfl, rfl, hts, hi12, hts (.fieldLink RX12 267 "HillArmsModel" "moreTick" "I") (by decide +kernel)⟩
  have q93 : ha_Fk s ([.ref (ad p0), .int p1, .int p2, .int p3] : List Value).toArray RX12 93 12 61 1 := ⟨RX12, TX12, 83, wsX12_breaks, rfl, by decide, by decide, rfl, rfl, hts, hi12, hts (.fieldLink RX12 93 "HillArmsModel" "brokenAhead" "[I") (by decide +kernel)⟩
  have q270 : ha_Fk s ([.ref (ad p0), .int p1, .int p2, .int p3] : List Value).toArray RX12 270 12 42 0 := ⟨RX12, TX12, 83, wsX12_breaks, rfl, by decide, by decide, rfl, rfl, hts, hi12, hts (.fieldLink RX12 270 "HillArmsModel" "moreAhead" "I") (by decide +kernel)⟩
  have q273 : ha_Fk s ([.ref (ad p0), .int p1, .int p2, .int p3] : List Value).toArray RX12 273 12 43 0 := ⟨RX12, TX12, 83, wsX12_breaks, rfl, by decide, by decide, rfl, rfl, hts, hi12, hts (.fieldLink RX12 273 "HillArmsModel" "otherTick" "I") (by decide +kernel)⟩
  have q276 : ha_Fk s ([.ref (ad p0), .int p1, .int p2, .int p3] : List Value).toArray RX12 276 12 44 0 := ⟨RX12, TX12, 83, wsX12_breaks, rfl, by decide, by decide, rfl, rfl, hts, hi12, hts (.fieldLink RX12 276 "HillArmsModel" "otherAhead" "I") (by decide +kernel)⟩
  have q13 : ha_Fk s ([.ref (ad p0), .int p1, .int p2, .int p3] : List Value).toArray RX12 13 12 4 0 := ⟨RX12, TX12, 83, wsX12_breaks, rfl, by decide, by decide, rfl, rfl, hts, hi12, hts (.fieldLink RX12 13 "HillArmsModel" "n" "I") (by decide +kernel)⟩
  have r353 : ha_Fp s ([.ref (ad p0), .int p1, .int p2, .int p3] : List Value).toArray RX12 353 12 62 0 .int := ⟨RX12, TX12, 83, wsX12_breaks, tyX12, rfl, by decide, by decide, rfl, rfl, hts, hi12, hts (.fieldLink RX12 353 "HillArmsModel" "brokenMany" "I") (by decide +kernel), tyX12_ok, nmX12, rfl, by decide +kernel⟩
  have r276 : ha_Fp s ([.ref (ad p0), .int p1, .int p2, .int p3] : List Value).toArray RX12 276 12 44 0 .int := ⟨RX12, TX12, 83, wsX12_breaks, tyX12, rfl, by decide, by decide, rfl, rfl, hts, hi12, hts (.fieldLink RX12 276 "HillArmsModel" "otherAhead" "I") (by decide +kernel), tyX12_ok, nmX12, rfl, by decide +kernel⟩
  have r273 : ha_Fp s ([.ref (ad p0), .int p1, .int p2, .int p3] : List Value).toArray RX12 273 12 43 0 .int := ⟨RX12, TX12, 83, wsX12_breaks, tyX12, rfl, by decide, by decide, rfl, rfl, hts, hi12, hts (.fieldLink RX12 273 "HillArmsModel" "otherTick" "I") (by decide +kernel), tyX12_ok, nmX12, rfl, by decide +kernel⟩
  have r270 : ha_Fp s ([.ref (ad p0), .int p1, .int p2, .int p3] : List Value).toArray RX12 270 12 42 0 .int := ⟨RX12, TX12, 83, wsX12_breaks, tyX12, rfl, by decide, by decide, rfl, rfl, hts, hi12, hts (.fieldLink RX12 270 "HillArmsModel" "moreAhead" "I") (by decide +kernel), tyX12_ok, nmX12, rfl, by decide +kernel⟩
  have r267 : ha_Fp s ([.ref (ad p0), .int p1, .int p2, .int p3] : List Value).toArray RX12 267 12 41 0 .int := ⟨RX12, TX12, 83, wsX12_breaks, tyX12, rfl, by decide, by decide, rfl, rfl, hts, hi12, hts (.fieldLink RX12 267 "HillArmsModel" "moreTick" "I") (by decide +kernel), tyX12_ok, nmX12, rfl, by decide +kernel⟩
  have cw0 := cwV (R := (headSpec wsX12_breaks ({ frames := 5, cells := 0, slots := 0, locals := 117 } : Room)).room) 1 hts gX12_breaks_X12_isWhole (rm := ({ frames := 4, cells := 0, slots := 0, locals := 95 } : Room)) (mc := 0) (ms := 0) rfl rfl rfl (by decide +kernel) ⟨Nat.le_of_ble_eq_true rfl, Nat.le_of_ble_eq_true rfl⟩
  have hl := lv_entry ([.ref (ad p0), .int p1, .int p2, .int p3]) (n := 5) (Nat.le_of_ble_eq_true rfl)
  rw [lg_entry_eq]
  generalize (lg_sl ([.ref (ad p0), .int p1, .int p2, .int p3]) ++ List.replicate (5 - (lg_sl ([.ref (ad p0), .int p1, .int p2, .int p3])).length) Slot.unset).toArray = ls at hl ⊢
  have hl : lv_has ls 5 [(0, .ref (ad p0)), (1, .int p1), (2, .int p2), (3, .int p3)] := hl
  refine (fun (K0 : ∀ (H : Heap) (locs : List Loc), va_P D vwCl (ha_wl cs ad mo_kd mo_ln N S) H → va_S (ha_A ad N) s.heap H locs → W p l e (headSpec wsX12_breaks ({ frames := 5, cells := 0, slots := 0, locals := 117 } : Room)).room s m ([.ref (ad p0), .int p1, .int p2, .int p3] : List Value).toArray below meth c H locs 0 0 (MQ below (va_Qi (fun (r : Int32) (_ : Unit) => r = out.1) (fun _ => ha_H D cs ad mo_kd mo_ln N out.2) (ha_A ad N)) ([.ref (ad p0), .int p1, .int p2, .int p3] : List Value).toArray s 0 0 (ha_A ad N)) (F0 m 0 ls [])) => K0 _ _ hP hS) ?_
  intro H locs hP hS
  have hf := ha_rt hf
  have J156 : ∀ (k0 : Nat) (k1 : Int32) (S : ha_St) (H : Heap) (locs : List Loc) (ls : Array Slot), (f_X12_breaks_J156 p0 p1 p2 p3 k0 k1 S).bind some = some out → mo_kd k0 = 12 → va_P D vwCl (ha_wl cs ad mo_kd mo_ln N S) H → va_D (ha_A ad N) (ha_wl cs ad mo_kd mo_ln N S) → va_S (ha_A ad N) s.heap H locs → lv_has ls 5 [(0, .ref (ad p0)), (1, .int p1), (2, .int p2), (3, .int p3)] → W p l e (headSpec wsX12_breaks ({ frames := 5, cells := 0, slots := 0, locals := 117 } : Room)).room s m ([.ref (ad p0), .int p1, .int p2, .int p3] : List Value).toArray below meth c H locs 0 0 (MQ below (va_Qi (fun (r : Int32) (_ : Unit) => r = out.1) (fun _ => ha_H D cs ad mo_kd mo_ln N out.2) (ha_A ad N)) ([.ref (ad p0), .int p1, .int p2, .int p3] : List Value).toArray s 0 0 (ha_A ad N)) (F0 m 156 ls [.int k1, .ref (ad k0)]) := by
    intro k0 k1 S H locs ls hf hk0 hP hD hS hl
    unfold f_X12_breaks_J156 at hf
    refine ha_puti hx hb hown hK hP hD hS r353 hN hk0 dX12_breaks_156 (fun S1 H locs eS1 hP hD hS => ?_)
    have hf := ha_nms hf eS1
    refine lv_iconst (v := 1) hx hb dX12_breaks_159 (by decide) ?_
    have he := Option.some.inj hf
    exact ha_retz hx hb hr hlocks hP hD hS dX12_breaks_160 (by decide) (ha_e1 he) (ha_e2 he)
  have J81 : ∀ (k0 : Nat) (k1 : Int32) (S : ha_St) (H : Heap) (locs : List Loc) (ls : Array Slot), (f_X12_breaks_J81 p0 p1 p2 p3 k0 k1 S).bind some = some out → mo_kd k0 = 12 → va_P D vwCl (ha_wl cs ad mo_kd mo_ln N S) H → va_D (ha_A ad N) (ha_wl cs ad mo_kd mo_ln N S) → va_S (ha_A ad N) s.heap H locs → lv_has ls 5 [(0, .ref (ad p0)), (1, .int p1), (2, .int p2), (3, .int p3)] → W p l e (headSpec wsX12_breaks ({ frames := 5, cells := 0, slots := 0, locals := 117 } : Room)).room s m ([.ref (ad p0), .int p1, .int p2, .int p3] : List Value).toArray below meth c H locs 0 0 (MQ below (va_Qi (fun (r : Int32) (_ : Unit) => r = out.1) (fun _ => ha_H D cs ad mo_kd mo_ln N out.2) (ha_A ad N)) ([.ref (ad p0), .int p1, .int p2, .int p3] : List Value).toArray s 0 0 (ha_A ad N)) (F0 m 81 ls [.int k1, .ref (ad k0)]) := by
    intro k0 k1 S H locs ls hf hk0 hP hD hS hl
    unfold f_X12_breaks_J81 at hf
    refine ha_puti hx hb hown hK hP hD hS r276 hN hk0 dX12_breaks_81 (fun S2 H locs eS2 hP hD hS => ?_)
    have hf := ha_nms hf eS2
    refine lv_aload_n hx hb dX12_breaks_84 rfl (lv_at hl 0 rfl) ?_
    refine lv_iload_n hx hb dX12_breaks_85 rfl (lv_at hl 3 rfl) ?_
    obtain ⟨z3, wz3, hf⟩ := ha_bds hf
    refine ha_callVi (As := [.int p3]) (rest := []) hZ ⟨hx, hb, hml, hown, hts⟩ hK hz hP hD hS (c_X12_isWhole hZ hN h0 wz3) cw0 hN h0 (by decide) rfl rfl hl.1 rfl (Nat.le_of_ble_eq_true rfl) dX12_breaks_86 ⟨Nat.le_of_ble_eq_true rfl, Nat.le_of_ble_eq_true rfl⟩ (fun H locs hP hD hS => ?_)
    refine lv_istore (lv' := [(4, .int z3.1), (0, .ref (ad p0)), (1, .int p1), (2, .int p2), (3, .int p3)]) hx hb dX12_breaks_89 hl (by decide) rfl (fun ls hl => ?_)
    refine lv_iload hx hb dX12_breaks_91 (lv_at hl 0 rfl) ?_
    refine lv_if_eq (tgt := 98) hx hb dX12_breaks_93 (by decide) (fun c4 => ?_) (fun c4 => ?_)
    · have hf := ha_it hf c4
      refine lv_aload_n hx hb dX12_breaks_98 rfl (lv_at hl 1 rfl) ?_
      obtain ⟨r5, wr5, hf⟩ := ha_bds hf
      obtain ⟨wr5, hr5⟩ := ha_rf_some wr5
      refine ha_getr hx hb hown hK hP q90 hN h0 wr5 dX12_breaks_99 ?_
      refine lv_iconst (v := 0) hx hb dX12_breaks_102 (by decide) ?_
      refine lv_aload_n hx hb dX12_breaks_103 rfl (lv_at hl 1 rfl) ?_
      refine ha_geti hx hb hown hK hP q267 hN h0 dX12_breaks_104 ?_
      obtain ⟨g6, hf⟩ := ha_gds hf
      refine ha_iast hx hb hK hP hD hS hN hr5 g6 dX12_breaks_107 (fun S7 H locs eS7 hP hD hS => ?_)
      have hf := ha_nms hf eS7
      refine lv_aload_n hx hb dX12_breaks_108 rfl (lv_at hl 1 rfl) ?_
      obtain ⟨r8, wr8, hf⟩ := ha_bds hf
      obtain ⟨wr8, hr8⟩ := ha_rf_some wr8
      refine ha_getr hx hb hown hK hP q93 hN h0 wr8 dX12_breaks_109 ?_
      refine lv_iconst (v := 0) hx hb dX12_breaks_112 (by decide) ?_
      refine lv_aload_n hx hb dX12_breaks_113 rfl (lv_at hl 1 rfl) ?_
      refine ha_geti hx hb hown hK hP q270 hN h0 dX12_breaks_114 ?_
      obtain ⟨g9, hf⟩ := ha_gds hf
      refine ha_iast hx hb hK hP hD hS hN hr8 g9 dX12_breaks_117 (fun S10 H locs eS10 hP hD hS => ?_)
      have hf := ha_nms hf eS10
      refine lv_aload_n hx hb dX12_breaks_118 rfl (lv_at hl 1 rfl) ?_
      obtain ⟨r11, wr11, hf⟩ := ha_bds hf
      obtain ⟨wr11, hr11⟩ := ha_rf_some wr11
      refine ha_getr hx hb hown hK hP q90 hN h0 wr11 dX12_breaks_119 ?_
      refine lv_iconst (v := 1) hx hb dX12_breaks_122 (by decide) ?_
      refine lv_aload_n hx hb dX12_breaks_123 rfl (lv_at hl 1 rfl) ?_
      refine ha_geti hx hb hown hK hP q273 hN h0 dX12_breaks_124 ?_
      obtain ⟨g12, hf⟩ := ha_gds hf
      refine ha_iast hx hb hK hP hD hS hN hr11 g12 dX12_breaks_127 (fun S13 H locs eS13 hP hD hS => ?_)
      have hf := ha_nms hf eS13
      refine lv_aload_n hx hb dX12_breaks_128 rfl (lv_at hl 1 rfl) ?_
      obtain ⟨r14, wr14, hf⟩ := ha_bds hf
      obtain ⟨wr14, hr14⟩ := ha_rf_some wr14
      refine ha_getr hx hb hown hK hP q93 hN h0 wr14 dX12_breaks_129 ?_
      refine lv_iconst (v := 1) hx hb dX12_breaks_132 (by decide) ?_
      refine lv_aload_n hx hb dX12_breaks_133 rfl (lv_at hl 1 rfl) ?_
      refine ha_geti hx hb hown hK hP q276 hN h0 dX12_breaks_134 ?_
      obtain ⟨g15, hf⟩ := ha_gds hf
      refine ha_iast hx hb hK hP hD hS hN hr14 g15 dX12_breaks_137 (fun S16 H locs eS16 hP hD hS => ?_)
      have hf := ha_nms hf eS16
      refine lv_aload_n hx hb dX12_breaks_138 rfl (lv_at hl 1 rfl) ?_
      refine lv_iload_n hx hb dX12_breaks_139 rfl (lv_at hl 2 rfl) ?_
      refine lv_if_ge (tgt := 147) hx hb dX12_breaks_140 (by decide) (fun c17 => ?_) (fun c17 => ?_)
      · have hf := ha_it hf c17
        refine lv_iload_n hx hb dX12_breaks_147 rfl (lv_at hl 3 rfl) ?_
        refine lv_if_ge (tgt := 155) hx hb dX12_breaks_148 (by decide) (fun c18 => ?_) (fun c18 => ?_)
        · have hf := ha_it hf c18
          refine lv_iconst (v := 2) hx hb dX12_breaks_155 (by decide) ?_
          exact J156 p0 2 S16 H locs ls hf h0 hP hD hS (lv_sub hl [1, 2, 3, 4] rfl)
        · have hf := ha_if hf c18
          refine lv_iconst (v := 1) hx hb dX12_breaks_151 (by decide) ?_
          refine lv_goto (tgt := 156) hx hb dX12_breaks_152 (by decide) ?_
          exact J156 p0 1 S16 H locs ls hf h0 hP hD hS (lv_sub hl [1, 2, 3, 4] rfl)
      · have hf := ha_if hf c17
        refine lv_iconst (v := 0) hx hb dX12_breaks_143 (by decide) ?_
        refine lv_goto (tgt := 156) hx hb dX12_breaks_144 (by decide) ?_
        exact J156 p0 0 S16 H locs ls hf h0 hP hD hS (lv_sub hl [1, 2, 3, 4] rfl)
    · have hf := ha_if hf c4
      refine lv_iconst (v := 0) hx hb dX12_breaks_96 (by decide) ?_
      have he := Option.some.inj hf
      exact ha_retz hx hb hr hlocks hP hD hS dX12_breaks_97 (by decide) (ha_e1 he) (ha_e2 he)
  have J61 : ∀ (k0 : Nat) (k1 : Int32) (S : ha_St) (H : Heap) (locs : List Loc) (ls : Array Slot), (f_X12_breaks_J61 p0 p1 p2 p3 k0 k1 S).bind some = some out → mo_kd k0 = 12 → va_P D vwCl (ha_wl cs ad mo_kd mo_ln N S) H → va_D (ha_A ad N) (ha_wl cs ad mo_kd mo_ln N S) → va_S (ha_A ad N) s.heap H locs → lv_has ls 5 [(0, .ref (ad p0)), (1, .int p1), (2, .int p2), (3, .int p3)] → W p l e (headSpec wsX12_breaks ({ frames := 5, cells := 0, slots := 0, locals := 117 } : Room)).room s m ([.ref (ad p0), .int p1, .int p2, .int p3] : List Value).toArray below meth c H locs 0 0 (MQ below (va_Qi (fun (r : Int32) (_ : Unit) => r = out.1) (fun _ => ha_H D cs ad mo_kd mo_ln N out.2) (ha_A ad N)) ([.ref (ad p0), .int p1, .int p2, .int p3] : List Value).toArray s 0 0 (ha_A ad N)) (F0 m 61 ls [.int k1, .ref (ad k0)]) := by
    intro k0 k1 S H locs ls hf hk0 hP hD hS hl
    unfold f_X12_breaks_J61 at hf
    refine ha_puti hx hb hown hK hP hD hS r273 hN hk0 dX12_breaks_61 (fun S19 H locs eS19 hP hD hS => ?_)
    have hf := ha_nms hf eS19
    refine lv_aload_n hx hb dX12_breaks_64 rfl (lv_at hl 0 rfl) ?_
    refine lv_iload_n hx hb dX12_breaks_65 rfl (lv_at hl 2 rfl) ?_
    refine lv_if_ge (tgt := 73) hx hb dX12_breaks_66 (by decide) (fun c20 => ?_) (fun c20 => ?_)
    · have hf := ha_it hf c20
      refine lv_iload_n hx hb dX12_breaks_73 rfl (lv_at hl 2 rfl) ?_
      refine lv_aload_n hx hb dX12_breaks_74 rfl (lv_at hl 0 rfl) ?_
      refine ha_geti hx hb hown hK hP q13 hN h0 dX12_breaks_75 ?_
      refine lv_iconst (v := 1) hx hb dX12_breaks_78 (by decide) ?_
      refine lv_isub hx hb dX12_breaks_79 ?_
      obtain ⟨g21, hf⟩ := ha_gds hf
      refine lv_irem hx hb dX12_breaks_80 g21 ?_
      exact J81 p0 (((p2 : Int32) - p2 / (((ha_gI S19 p0 4) : Int32) - 1) * (((ha_gI S19 p0 4) : Int32) - 1))) S19 H locs ls hf h0 hP hD hS (lv_sub hl [0, 1, 2, 3] rfl)
    · have hf := ha_if hf c20
      refine lv_iconst (v := 0) hx hb dX12_breaks_69 (by decide) ?_
      refine lv_goto (tgt := 81) hx hb dX12_breaks_70 (by decide) ?_
      exact J81 p0 0 S19 H locs ls hf h0 hP hD hS (lv_sub hl [0, 1, 2, 3] rfl)
  have J39 : ∀ (k0 : Nat) (k1 : Int32) (S : ha_St) (H : Heap) (locs : List Loc) (ls : Array Slot), (f_X12_breaks_J39 p0 p1 p2 p3 k0 k1 S).bind some = some out → mo_kd k0 = 12 → va_P D vwCl (ha_wl cs ad mo_kd mo_ln N S) H → va_D (ha_A ad N) (ha_wl cs ad mo_kd mo_ln N S) → va_S (ha_A ad N) s.heap H locs → lv_has ls 5 [(0, .ref (ad p0)), (1, .int p1), (2, .int p2), (3, .int p3)] → W p l e (headSpec wsX12_breaks ({ frames := 5, cells := 0, slots := 0, locals := 117 } : Room)).room s m ([.ref (ad p0), .int p1, .int p2, .int p3] : List Value).toArray below meth c H locs 0 0 (MQ below (va_Qi (fun (r : Int32) (_ : Unit) => r = out.1) (fun _ => ha_H D cs ad mo_kd mo_ln N out.2) (ha_A ad N)) ([.ref (ad p0), .int p1, .int p2, .int p3] : List Value).toArray s 0 0 (ha_A ad N)) (F0 m 39 ls [.int k1, .ref (ad k0)]) := by
    intro k0 k1 S H locs ls hf hk0 hP hD hS hl
    unfold f_X12_breaks_J39 at hf
    refine ha_puti hx hb hown hK hP hD hS r270 hN hk0 dX12_breaks_39 (fun S22 H locs eS22 hP hD hS => ?_)
    have hf := ha_nms hf eS22
    refine lv_aload_n hx hb dX12_breaks_42 rfl (lv_at hl 0 rfl) ?_
    refine lv_iload_n hx hb dX12_breaks_43 rfl (lv_at hl 2 rfl) ?_
    refine lv_if_ge (tgt := 51) hx hb dX12_breaks_44 (by decide) (fun c23 => ?_) (fun c23 => ?_)
    · have hf := ha_it hf c23
      refine lv_iconst (v := 1) hx hb dX12_breaks_51 (by decide) ?_
      refine lv_iload_n hx hb dX12_breaks_52 rfl (lv_at hl 2 rfl) ?_
      refine lv_aload_n hx hb dX12_breaks_53 rfl (lv_at hl 0 rfl) ?_
      refine ha_geti hx hb hown hK hP q13 hN h0 dX12_breaks_54 ?_
      refine lv_iconst (v := 1) hx hb dX12_breaks_57 (by decide) ?_
      refine lv_isub hx hb dX12_breaks_58 ?_
      obtain ⟨g24, hf⟩ := ha_gds hf
      refine lv_idiv hx hb dX12_breaks_59 g24 ?_
      refine lv_iadd hx hb dX12_breaks_60 ?_
      exact J61 p0 (((1 : Int32) + ((p2 : Int32) / (((ha_gI S22 p0 4) : Int32) - 1)))) S22 H locs ls hf h0 hP hD hS (lv_sub hl [0, 1, 2, 3] rfl)
    · have hf := ha_if hf c23
      refine lv_iconst (v := 0) hx hb dX12_breaks_47 (by decide) ?_
      refine lv_goto (tgt := 61) hx hb dX12_breaks_48 (by decide) ?_
      exact J61 p0 0 S22 H locs ls hf h0 hP hD hS (lv_sub hl [0, 1, 2, 3] rfl)
  have J19 : ∀ (k0 : Nat) (k1 : Int32) (S : ha_St) (H : Heap) (locs : List Loc) (ls : Array Slot), (f_X12_breaks_J19 p0 p1 p2 p3 k0 k1 S).bind some = some out → mo_kd k0 = 12 → va_P D vwCl (ha_wl cs ad mo_kd mo_ln N S) H → va_D (ha_A ad N) (ha_wl cs ad mo_kd mo_ln N S) → va_S (ha_A ad N) s.heap H locs → lv_has ls 5 [(0, .ref (ad p0)), (1, .int p1), (2, .int p2), (3, .int p3)] → W p l e (headSpec wsX12_breaks ({ frames := 5, cells := 0, slots := 0, locals := 117 } : Room)).room s m ([.ref (ad p0), .int p1, .int p2, .int p3] : List Value).toArray below meth c H locs 0 0 (MQ below (va_Qi (fun (r : Int32) (_ : Unit) => r = out.1) (fun _ => ha_H D cs ad mo_kd mo_ln N out.2) (ha_A ad N)) ([.ref (ad p0), .int p1, .int p2, .int p3] : List Value).toArray s 0 0 (ha_A ad N)) (F0 m 19 ls [.int k1, .ref (ad k0)]) := by
    intro k0 k1 S H locs ls hf hk0 hP hD hS hl
    unfold f_X12_breaks_J19 at hf
    refine ha_puti hx hb hown hK hP hD hS r267 hN hk0 dX12_breaks_19 (fun S25 H locs eS25 hP hD hS => ?_)
    have hf := ha_nms hf eS25
    refine lv_aload_n hx hb dX12_breaks_22 rfl (lv_at hl 0 rfl) ?_
    refine lv_iload_n hx hb dX12_breaks_23 rfl (lv_at hl 1 rfl) ?_
    refine lv_if_ge (tgt := 31) hx hb dX12_breaks_24 (by decide) (fun c26 => ?_) (fun c26 => ?_)
    · have hf := ha_it hf c26
      refine lv_iload_n hx hb dX12_breaks_31 rfl (lv_at hl 1 rfl) ?_
      refine lv_aload_n hx hb dX12_breaks_32 rfl (lv_at hl 0 rfl) ?_
      refine ha_geti hx hb hown hK hP q13 hN h0 dX12_breaks_33 ?_
      refine lv_iconst (v := 1) hx hb dX12_breaks_36 (by decide) ?_
      refine lv_isub hx hb dX12_breaks_37 ?_
      obtain ⟨g27, hf⟩ := ha_gds hf
      refine lv_irem hx hb dX12_breaks_38 g27 ?_
      exact J39 p0 (((p1 : Int32) - p1 / (((ha_gI S25 p0 4) : Int32) - 1) * (((ha_gI S25 p0 4) : Int32) - 1))) S25 H locs ls hf h0 hP hD hS (lv_sub hl [0, 1, 2, 3] rfl)
    · have hf := ha_if hf c26
      refine lv_iconst (v := 0) hx hb dX12_breaks_27 (by decide) ?_
      refine lv_goto (tgt := 39) hx hb dX12_breaks_28 (by decide) ?_
      exact J39 p0 0 S25 H locs ls hf h0 hP hD hS (lv_sub hl [0, 1, 2, 3] rfl)
  unfold f_X12_breaks at hf
  refine lv_aload_n hx hb dX12_breaks_0 rfl (lv_at hl 0 rfl) ?_
  refine lv_iload_n hx hb dX12_breaks_1 rfl (lv_at hl 1 rfl) ?_
  refine lv_if_ge (tgt := 9) hx hb dX12_breaks_2 (by decide) (fun c28 => ?_) (fun c28 => ?_)
  · have hf := ha_it hf c28
    refine lv_iconst (v := 1) hx hb dX12_breaks_9 (by decide) ?_
    refine lv_iload_n hx hb dX12_breaks_10 rfl (lv_at hl 1 rfl) ?_
    refine lv_aload_n hx hb dX12_breaks_11 rfl (lv_at hl 0 rfl) ?_
    refine ha_geti hx hb hown hK hP q13 hN h0 dX12_breaks_12 ?_
    refine lv_iconst (v := 1) hx hb dX12_breaks_15 (by decide) ?_
    refine lv_isub hx hb dX12_breaks_16 ?_
    obtain ⟨g29, hf⟩ := ha_gds hf
    refine lv_idiv hx hb dX12_breaks_17 g29 ?_
    refine lv_iadd hx hb dX12_breaks_18 ?_
    exact J19 p0 (((1 : Int32) + ((p1 : Int32) / (((ha_gI S p0 4) : Int32) - 1)))) S H locs ls hf h0 hP hD hS (lv_sub hl [0, 1, 2, 3] rfl)
  · have hf := ha_if hf c28
    refine lv_iconst (v := 0) hx hb dX12_breaks_5 (by decide) ?_
    refine lv_goto (tgt := 19) hx hb dX12_breaks_6 (by decide) ?_
    exact J19 p0 0 S H locs ls hf h0 hP hD hS (lv_sub hl [0, 1, 2, 3] rfl)

set_option maxHeartbeats 4000000 in
set_option maxRecDepth 100000 in
theorem c_X12_broken {l : Launch} {D : va_G} {cs : Nat → ClassId} {ad : Nat → Nat} {N : List Nat} {Z : State → Prop} (hZ : ha_Zok (ha_A ad N) Z) (hN : ∀ x, mo_kd x < 999 → x ∈ N) {p0 : Nat} {p1 : Int32} {p2 : Int32} {S : ha_St} {out : Int32 × ha_St} (h0 : mo_kd p0 = 12) (hf : f_X12_broken p0 p1 p2 S = some out) : ha_Ci l D cs ad mo_kd mo_ln N Z yX12_broken wsX12_broken ({ frames := 6, cells := 0, slots := 0, locals := 141 } : Room) [.ref (ad p0), .int p1, .int p2] S out.1 out.2 := by
  refine Met.ofW (cc := cX12_broken) (maxL := 6) (ret := (some .int)) (by decide +kernel) rfl ?_
  intro p e s m args below meth c s₁ B hml hv
  obtain ⟨rfl, hP, hD, hK, hz⟩ := hv
  have hx := B.exec
  have hb := B.bytes
  have hr := B.returns
  have hts := atoms_spec (ws := wsX12_broken) B.pre
  have hown : s.vm.findClass RX12 = some m.cls := findClass_of_methodNamed B.named
  have hlocks := B.notSynchronized
  have hS : va_S (ha_A ad N) s.heap s.heap [] := va_S.rf
  have hi12 : ∀ w ∈ wsX120, w ∈ wsX12_broken := fun w h => List.mem_cons_of_mem _ (List.mem_append_right _ h)
  have q13 : ha_Fk s ([.ref (ad p0), .int p1, .int p2] : List Value).toArray RX12 13 12 4 0 := ⟨RX12, TX12, 83, wsX12_broken, rfl, by decide, by decide, rfl, rfl, hts, hi12, hts (.fieldLink RX12 13 "HillArmsModel" "n" "I") (by decide +kernel)⟩
  have r138 : ha_Fp s ([.ref (ad p0), .int p1, .int p2] : List Value).toArray RX12 138 12 0 0 .int := ⟨RX12, TX12, 83, wsX12_broken, tyX12, rfl, by decide, by decide, rfl, rfl, hts, hi12, hts (.fieldLink RX12 138 "HillArmsModel" "thrown" "I") (by decide +kernel), tyX12_ok, nmX12, rfl, by decide +kernel⟩
  have cw0 := cwV (R := (headSpec wsX12_broken ({ frames := 6, cells := 0, slots := 0, locals := 141 } : Room)).room) 3 hts gX12_broken_X12_breaks (rm := ({ frames := 5, cells := 0, slots := 0, locals := 117 } : Room)) (mc := 0) (ms := 0) rfl rfl rfl (by decide +kernel) ⟨Nat.le_of_ble_eq_true rfl, Nat.le_of_ble_eq_true rfl⟩
  have cw1 := va_cwS (R := (headSpec wsX12_broken ({ frames := 6, cells := 0, slots := 0, locals := 141 } : Room)).room) 3 hts gX12_broken_X12_isIn (rm := ({ frames := 0, cells := 0, slots := 0, locals := 0 } : Room)) (mc := 0) (ms := 0) rfl rfl rfl (by decide +kernel) ⟨Nat.le_of_ble_eq_true rfl, Nat.le_of_ble_eq_true rfl⟩
  have hl := lv_entry ([.ref (ad p0), .int p1, .int p2]) (n := 6) (Nat.le_of_ble_eq_true rfl)
  rw [lg_entry_eq]
  generalize (lg_sl ([.ref (ad p0), .int p1, .int p2]) ++ List.replicate (6 - (lg_sl ([.ref (ad p0), .int p1, .int p2])).length) Slot.unset).toArray = ls at hl ⊢
  have hl : lv_has ls 6 [(0, .ref (ad p0)), (1, .int p1), (2, .int p2)] := hl
  refine (fun (K0 : ∀ (H : Heap) (locs : List Loc), va_P D vwCl (ha_wl cs ad mo_kd mo_ln N S) H → va_S (ha_A ad N) s.heap H locs → W p l e (headSpec wsX12_broken ({ frames := 6, cells := 0, slots := 0, locals := 141 } : Room)).room s m ([.ref (ad p0), .int p1, .int p2] : List Value).toArray below meth c H locs 0 0 (MQ below (va_Qi (fun (r : Int32) (_ : Unit) => r = out.1) (fun _ => ha_H D cs ad mo_kd mo_ln N out.2) (ha_A ad N)) ([.ref (ad p0), .int p1, .int p2] : List Value).toArray s 0 0 (ha_A ad N)) (F0 m 0 ls [])) => K0 _ _ hP hS) ?_
  intro H locs hP hS
  have hf := ha_rt hf
  have J133 : ∀  (S : ha_St) (H : Heap) (locs : List Loc) (ls : Array Slot), (f_X12_broken_J133 p0 p1 p2  S).bind some = some out → va_P D vwCl (ha_wl cs ad mo_kd mo_ln N S) H → va_D (ha_A ad N) (ha_wl cs ad mo_kd mo_ln N S) → va_S (ha_A ad N) s.heap H locs → lv_has ls 6 [(0, .ref (ad p0)), (1, .int p1), (2, .int p2)] → W p l e (headSpec wsX12_broken ({ frames := 6, cells := 0, slots := 0, locals := 141 } : Room)).room s m ([.ref (ad p0), .int p1, .int p2] : List Value).toArray below meth c H locs 0 0 (MQ below (va_Qi (fun (r : Int32) (_ : Unit) => r = out.1) (fun _ => ha_H D cs ad mo_kd mo_ln N out.2) (ha_A ad N)) ([.ref (ad p0), .int p1, .int p2] : List Value).toArray s 0 0 (ha_A ad N)) (F0 m 133 ls []) := by
    intro  S H locs ls hf  hP hD hS hl
    unfold f_X12_broken_J133 at hf
    refine lv_iconst (v := (-1)) hx hb dX12_broken_133 (by decide) ?_
    have he := Option.some.inj hf
    exact ha_reti hx hb hr hlocks hP hD hS dX12_broken_134 (ha_e1 he) (ha_e2 he)
  have J86 : ∀ (v3 : Int32) (S : ha_St) (H : Heap) (locs : List Loc) (ls : Array Slot), (f_X12_broken_J86 p0 p1 p2 v3 S).bind some = some out → va_P D vwCl (ha_wl cs ad mo_kd mo_ln N S) H → va_D (ha_A ad N) (ha_wl cs ad mo_kd mo_ln N S) → va_S (ha_A ad N) s.heap H locs → lv_has ls 6 [(0, .ref (ad p0)), (1, .int p1), (2, .int p2), (3, .int v3)] → W p l e (headSpec wsX12_broken ({ frames := 6, cells := 0, slots := 0, locals := 141 } : Room)).room s m ([.ref (ad p0), .int p1, .int p2] : List Value).toArray below meth c H locs 0 0 (MQ below (va_Qi (fun (r : Int32) (_ : Unit) => r = out.1) (fun _ => ha_H D cs ad mo_kd mo_ln N out.2) (ha_A ad N)) ([.ref (ad p0), .int p1, .int p2] : List Value).toArray s 0 0 (ha_A ad N)) (F0 m 86 ls []) := by
    intro v3 S H locs ls hf  hP hD hS hl
    unfold f_X12_broken_J86 at hf
    refine lv_iconst (v := 0) hx hb dX12_broken_86 (by decide) ?_
    refine lv_istore (lv' := [(4, .int 0), (0, .ref (ad p0)), (1, .int p1), (2, .int p2), (3, .int v3)]) hx hb dX12_broken_87 hl (by decide) rfl (fun ls hl => ?_)
    have key10 : ∀ (K : ((ha_St) ⊕ (Int32 × ha_St)) → Option (Int32 × ha_St)), (∀  (S : ha_St) (H : Heap) (locs : List Loc) (ls : Array Slot), K (.inl S) = some out → va_P D vwCl (ha_wl cs ad mo_kd mo_ln N S) H → va_D (ha_A ad N) (ha_wl cs ad mo_kd mo_ln N S) → va_S (ha_A ad N) s.heap H locs → lv_has ls 6 [(0, .ref (ad p0)), (1, .int p1), (2, .int p2)] → W p l e (headSpec wsX12_broken ({ frames := 6, cells := 0, slots := 0, locals := 141 } : Room)).room s m ([.ref (ad p0), .int p1, .int p2] : List Value).toArray below meth c H locs 0 0 (MQ below (va_Qi (fun (r : Int32) (_ : Unit) => r = out.1) (fun _ => ha_H D cs ad mo_kd mo_ln N out.2) (ha_A ad N)) ([.ref (ad p0), .int p1, .int p2] : List Value).toArray s 0 0 (ha_A ad N)) (F0 m 133 ls [])) → (∀ r, K (.inr r) = some out → r = out) → ∀ (n : Nat) (v3 : Int32) (v4 : Int32) (S : ha_St) (H : Heap) (locs : List Loc) (ls : Array Slot), (f_X12_broken_L89i p0 p1 p2 n (v3, v4, S)).bind K = some out → va_P D vwCl (ha_wl cs ad mo_kd mo_ln N S) H → va_D (ha_A ad N) (ha_wl cs ad mo_kd mo_ln N S) → va_S (ha_A ad N) s.heap H locs → lv_has ls 6 [(0, .ref (ad p0)), (1, .int p1), (2, .int p2), (3, .int v3), (4, .int v4)] → W p l e (headSpec wsX12_broken ({ frames := 6, cells := 0, slots := 0, locals := 141 } : Room)).room s m ([.ref (ad p0), .int p1, .int p2] : List Value).toArray below meth c H locs 0 0 (MQ below (va_Qi (fun (r : Int32) (_ : Unit) => r = out.1) (fun _ => ha_H D cs ad mo_kd mo_ln N out.2) (ha_A ad N)) ([.ref (ad p0), .int p1, .int p2] : List Value).toArray s 0 0 (ha_A ad N)) (F0 m 89 ls []) := by
      intro K hk hke n
      induction n with
      | zero =>
        intro v3 v4 S H locs ls hf
        exact absurd (show (none : Option (Int32 × ha_St)) = some out from hf) (fun h => by cases h)
      | succ n ih =>
        intro v3 v4 S H locs ls hf  hP hD hS hl
        have J127 : ∀ (v3 : Int32) (v4 : Int32) (S : ha_St) (H : Heap) (locs : List Loc) (ls : Array Slot), (f_X12_broken_L89_J127 p0 p1 p2 (f_X12_broken_L89i p0 p1 p2 n) v3 v4 S).bind K = some out → va_P D vwCl (ha_wl cs ad mo_kd mo_ln N S) H → va_D (ha_A ad N) (ha_wl cs ad mo_kd mo_ln N S) → va_S (ha_A ad N) s.heap H locs → lv_has ls 6 [(0, .ref (ad p0)), (1, .int p1), (2, .int p2), (3, .int v3), (4, .int v4)] → W p l e (headSpec wsX12_broken ({ frames := 6, cells := 0, slots := 0, locals := 141 } : Room)).room s m ([.ref (ad p0), .int p1, .int p2] : List Value).toArray below meth c H locs 0 0 (MQ below (va_Qi (fun (r : Int32) (_ : Unit) => r = out.1) (fun _ => ha_H D cs ad mo_kd mo_ln N out.2) (ha_A ad N)) ([.ref (ad p0), .int p1, .int p2] : List Value).toArray s 0 0 (ha_A ad N)) (F0 m 127 ls []) := by
          intro v3 v4 S H locs ls hf  hP hD hS hl
          unfold f_X12_broken_L89_J127 at hf
          obtain ⟨x1, ex1⟩ : ∃ y : Int32, y = (v4 : Int32) + 1 := ⟨_, rfl⟩
          have hf := ha_nms hf ex1
          refine lv_iinc (v := x1) (lv' := [(4, .int x1), (0, .ref (ad p0)), (1, .int p1), (2, .int p2), (3, .int v3)]) hx hb dX12_broken_127 hl (k := 4) rfl (by rw [ex1]; rfl) (by decide) rfl (fun ls hl => ?_)
          refine lv_goto (tgt := 89) hx hb dX12_broken_130 (by decide) ?_
          exact ih v3 x1 S H locs ls hf  hP hD hS (lv_sub hl [1, 2, 3, 4, 0] rfl)
        have hf : (f_X12_broken_L89 p0 p1 p2 (f_X12_broken_L89i p0 p1 p2 n) v3 v4 S).bind K = some out := hf
        unfold f_X12_broken_L89 at hf
        refine lv_iload hx hb dX12_broken_89 (lv_at hl 4 rfl) ?_
        refine lv_iload_n hx hb dX12_broken_91 rfl (lv_at hl 3 rfl) ?_
        refine lv_icmp_ge (tgt := 133) hx hb dX12_broken_92 (by decide) (fun c2 => ?_) (fun c2 => ?_)
        · have hf := ha_it hf c2
          exact hk  S H locs ls hf  hP hD hS (lv_sub hl [0, 1, 2] rfl)
        · have hf := ha_if hf c2
          refine lv_iload hx hb dX12_broken_95 (lv_at hl 4 rfl) ?_
          refine lv_iconst (v := 1) hx hb dX12_broken_97 (by decide) ?_
          refine lv_iadd hx hb dX12_broken_98 ?_
          refine lv_topi (fun x3 ex3 => ?_)
          have hf := ha_nms hf ex3
          refine lv_istore (lv' := [(5, .int x3), (0, .ref (ad p0)), (1, .int p1), (2, .int p2), (3, .int v3), (4, .int v4)]) hx hb dX12_broken_99 hl (by decide) rfl (fun ls hl => ?_)
          have key8 : ∀ (K : ((Int32 × Int32 × ha_St) ⊕ (Int32 × ha_St)) → Option (Int32 × ha_St)), (∀ (v3 : Int32) (v4 : Int32) (S : ha_St) (H : Heap) (locs : List Loc) (ls : Array Slot), K (.inl (v3, v4, S)) = some out → va_P D vwCl (ha_wl cs ad mo_kd mo_ln N S) H → va_D (ha_A ad N) (ha_wl cs ad mo_kd mo_ln N S) → va_S (ha_A ad N) s.heap H locs → lv_has ls 6 [(0, .ref (ad p0)), (1, .int p1), (2, .int p2), (3, .int v3), (4, .int v4)] → W p l e (headSpec wsX12_broken ({ frames := 6, cells := 0, slots := 0, locals := 141 } : Room)).room s m ([.ref (ad p0), .int p1, .int p2] : List Value).toArray below meth c H locs 0 0 (MQ below (va_Qi (fun (r : Int32) (_ : Unit) => r = out.1) (fun _ => ha_H D cs ad mo_kd mo_ln N out.2) (ha_A ad N)) ([.ref (ad p0), .int p1, .int p2] : List Value).toArray s 0 0 (ha_A ad N)) (F0 m 127 ls [])) → (∀ r, K (.inr r) = some out → r = out) → ∀ (n : Nat) (v3 : Int32) (v4 : Int32) (v5 : Int32) (S : ha_St) (H : Heap) (locs : List Loc) (ls : Array Slot), (f_X12_broken_L101i p0 p1 p2 n (v3, v4, v5, S)).bind K = some out → va_P D vwCl (ha_wl cs ad mo_kd mo_ln N S) H → va_D (ha_A ad N) (ha_wl cs ad mo_kd mo_ln N S) → va_S (ha_A ad N) s.heap H locs → lv_has ls 6 [(0, .ref (ad p0)), (1, .int p1), (2, .int p2), (3, .int v3), (4, .int v4), (5, .int v5)] → W p l e (headSpec wsX12_broken ({ frames := 6, cells := 0, slots := 0, locals := 141 } : Room)).room s m ([.ref (ad p0), .int p1, .int p2] : List Value).toArray below meth c H locs 0 0 (MQ below (va_Qi (fun (r : Int32) (_ : Unit) => r = out.1) (fun _ => ha_H D cs ad mo_kd mo_ln N out.2) (ha_A ad N)) ([.ref (ad p0), .int p1, .int p2] : List Value).toArray s 0 0 (ha_A ad N)) (F0 m 101 ls []) := by
            intro K hk hke n
            induction n with
            | zero =>
              intro v3 v4 v5 S H locs ls hf
              exact absurd (show (none : Option (Int32 × ha_St)) = some out from hf) (fun h => by cases h)
            | succ n ih =>
              intro v3 v4 v5 S H locs ls hf  hP hD hS hl
              have hf : (f_X12_broken_L101 p0 p1 p2 (f_X12_broken_L101i p0 p1 p2 n) v3 v4 v5 S).bind K = some out := hf
              unfold f_X12_broken_L101 at hf
              refine lv_iload hx hb dX12_broken_101 (lv_at hl 5 rfl) ?_
              refine lv_iload_n hx hb dX12_broken_103 rfl (lv_at hl 3 rfl) ?_
              refine lv_icmp_ge (tgt := 127) hx hb dX12_broken_104 (by decide) (fun c4 => ?_) (fun c4 => ?_)
              · have hf := ha_it hf c4
                exact hk v3 v4 S H locs ls hf  hP hD hS (lv_sub hl [0, 1, 2, 3, 4] rfl)
              · have hf := ha_if hf c4
                refine lv_aload_n hx hb dX12_broken_107 rfl (lv_at hl 0 rfl) ?_
                refine lv_iload hx hb dX12_broken_108 (lv_at hl 4 rfl) ?_
                refine lv_iload hx hb dX12_broken_110 (lv_at hl 5 rfl) ?_
                refine lv_iload_n hx hb dX12_broken_112 rfl (lv_at hl 1 rfl) ?_
                obtain ⟨z5, wz5, hf⟩ := ha_bds hf
                refine ha_callVi (As := [.int v4, .int v5, .int p1]) (rest := []) hZ ⟨hx, hb, hml, hown, hts⟩ hK hz hP hD hS (c_X12_breaks hZ hN h0 wz5) cw0 hN h0 (by decide) rfl rfl hl.1 rfl (Nat.le_of_ble_eq_true rfl) dX12_broken_113 ⟨Nat.le_of_ble_eq_true rfl, Nat.le_of_ble_eq_true rfl⟩ (fun H locs hP hD hS => ?_)
                refine lv_if_eq (tgt := 121) hx hb dX12_broken_116 (by decide) (fun c6 => ?_) (fun c6 => ?_)
                · have hf := ha_it hf c6
                  obtain ⟨x7, ex7⟩ : ∃ y : Int32, y = (v5 : Int32) + 1 := ⟨_, rfl⟩
                  have hf := ha_nms hf ex7
                  refine lv_iinc (v := x7) (lv' := [(5, .int x7), (0, .ref (ad p0)), (1, .int p1), (2, .int p2), (3, .int v3), (4, .int v4)]) hx hb dX12_broken_121 hl (k := 5) rfl (by rw [ex7]; rfl) (by decide) rfl (fun ls hl => ?_)
                  refine lv_goto (tgt := 101) hx hb dX12_broken_124 (by decide) ?_
                  exact ih v3 v4 x7 z5.2 H locs ls hf  hP hD hS (lv_sub hl [1, 2, 3, 4, 5, 0] rfl)
                · have hf := ha_if hf c6
                  refine lv_iconst (v := 2) hx hb dX12_broken_119 (by decide) ?_
                  have he := hke _ hf
                  exact ha_reti hx hb hr hlocks hP hD hS dX12_broken_120 (ha_e1 he) (ha_e2 he)
          refine key8 _ (fun v3 v4 S H locs ls hf  hP hD hS hl => ?_) (fun r h => hke r h) ha_fu v3 v4 x3 S H locs ls (ha_as hf)  hP hD hS (lv_sub hl [1, 2, 3, 4, 5, 0] rfl)
          have hf : (f_X12_broken_L89_J127 p0 p1 p2 (f_X12_broken_L89i p0 p1 p2 n) v3 v4 S).bind K = some out := hf
          exact J127 v3 v4 S H locs ls hf  hP hD hS (lv_sub hl [0, 1, 2, 3, 4] rfl)
    refine key10 _ (fun  S H locs ls hf  hP hD hS hl => ?_) (fun r h => Option.some.inj h) ha_fu v3 0 S H locs ls (ha_as hf)  hP hD hS (lv_sub hl [1, 2, 3, 4, 0] rfl)
    have hf : (f_X12_broken_J133 p0 p1 p2  S).bind some = some out := hf
    exact J133  S H locs ls hf  hP hD hS (lv_sub hl [0, 1, 2] rfl)
  have J34 : ∀  (S : ha_St) (H : Heap) (locs : List Loc) (ls : Array Slot), (f_X12_broken_J34 p0 p1 p2  S).bind some = some out → va_P D vwCl (ha_wl cs ad mo_kd mo_ln N S) H → va_D (ha_A ad N) (ha_wl cs ad mo_kd mo_ln N S) → va_S (ha_A ad N) s.heap H locs → lv_has ls 6 [(0, .ref (ad p0)), (1, .int p1), (2, .int p2)] → W p l e (headSpec wsX12_broken ({ frames := 6, cells := 0, slots := 0, locals := 141 } : Room)).room s m ([.ref (ad p0), .int p1, .int p2] : List Value).toArray below meth c H locs 0 0 (MQ below (va_Qi (fun (r : Int32) (_ : Unit) => r = out.1) (fun _ => ha_H D cs ad mo_kd mo_ln N out.2) (ha_A ad N)) ([.ref (ad p0), .int p1, .int p2] : List Value).toArray s 0 0 (ha_A ad N)) (F0 m 34 ls []) := by
    intro  S H locs ls hf  hP hD hS hl
    unfold f_X12_broken_J34 at hf
    refine lv_bipush (v := (-2)) hx hb dX12_broken_34 (by decide) ?_
    have he := Option.some.inj hf
    exact ha_reti hx hb hr hlocks hP hD hS dX12_broken_36 (ha_e1 he) (ha_e2 he)
  unfold f_X12_broken at hf
  refine lv_aload_n hx hb dX12_broken_0 rfl (lv_at hl 0 rfl) ?_
  refine lv_iconst (v := 0) hx hb dX12_broken_1 (by decide) ?_
  refine ha_puti hx hb hown hK hP hD hS r138 hN h0 dX12_broken_2 (fun S12 H locs eS12 hP hD hS => ?_)
  have hf := ha_nms hf eS12
  refine lv_iload_n hx hb dX12_broken_5 rfl (lv_at hl 1 rfl) ?_
  refine lv_iconst (v := 0) hx hb dX12_broken_6 (by decide) ?_
  refine lv_bipush (v := 60) hx hb dX12_broken_7 (by decide) ?_
  obtain ⟨z13, wz13, hf⟩ := ha_bds hf
  refine ha_callSi (As := [.int p1, .int 0, .int 60]) (rest := []) hZ ⟨hx, hb, hml, hown, hts⟩ hK hz hP hD hS (c_X12_isIn   wz13) cw1 rfl hl.1 rfl (Nat.le_of_ble_eq_true rfl) dX12_broken_9 ⟨Nat.le_of_ble_eq_true rfl, Nat.le_of_ble_eq_true rfl⟩ (fun H locs hP hD hS => ?_)
  refine lv_if_eq (tgt := 34) hx hb dX12_broken_12 (by decide) (fun c14 => ?_) (fun c14 => ?_)
  · have hf := ha_it hf c14
    exact J34  S12 H locs ls hf  hP hD hS (lv_sub hl [0, 1, 2] rfl)
  · have hf := ha_if hf c14
    refine lv_iload_n hx hb dX12_broken_15 rfl (lv_at hl 2 rfl) ?_
    refine lv_iconst (v := 0) hx hb dX12_broken_16 (by decide) ?_
    refine lv_bipush (v := 10) hx hb dX12_broken_17 (by decide) ?_
    obtain ⟨z15, wz15, hf⟩ := ha_bds hf
    refine ha_callSi (As := [.int p2, .int 0, .int 10]) (rest := []) hZ ⟨hx, hb, hml, hown, hts⟩ hK hz hP hD hS (c_X12_isIn   wz15) cw1 rfl hl.1 rfl (Nat.le_of_ble_eq_true rfl) dX12_broken_19 ⟨Nat.le_of_ble_eq_true rfl, Nat.le_of_ble_eq_true rfl⟩ (fun H locs hP hD hS => ?_)
    refine lv_if_eq (tgt := 34) hx hb dX12_broken_22 (by decide) (fun c16 => ?_) (fun c16 => ?_)
    · have hf := ha_it hf c16
      exact J34  S12 H locs ls hf  hP hD hS (lv_sub hl [0, 1, 2] rfl)
    · have hf := ha_if hf c16
      refine lv_aload_n hx hb dX12_broken_25 rfl (lv_at hl 0 rfl) ?_
      refine ha_geti hx hb hown hK hP q13 hN h0 dX12_broken_26 ?_
      refine lv_bipush (v := 8) hx hb dX12_broken_29 (by decide) ?_
      refine lv_icmp_le (tgt := 37) hx hb dX12_broken_31 (by decide) (fun c17 => ?_) (fun c17 => ?_)
      · have hf := ha_it hf c17
        refine lv_iload_n hx hb dX12_broken_37 rfl (lv_at hl 2 rfl) ?_
        refine lv_aload_n hx hb dX12_broken_38 rfl (lv_at hl 0 rfl) ?_
        refine ha_geti hx hb hown hK hP q13 hN h0 dX12_broken_39 ?_
        refine lv_iconst (v := 1) hx hb dX12_broken_42 (by decide) ?_
        refine lv_isub hx hb dX12_broken_43 ?_
        refine lv_imul hx hb dX12_broken_44 ?_
        refine lv_topi (fun x18 ex18 => ?_)
        have hf := ha_nms hf ex18
        refine lv_istore_n (lv' := [(3, .int x18), (0, .ref (ad p0)), (1, .int p1), (2, .int p2)]) hx hb dX12_broken_45 rfl hl (by decide) rfl (fun ls hl => ?_)
        refine lv_aload_n hx hb dX12_broken_46 rfl (lv_at hl 1 rfl) ?_
        refine lv_iconst (v := (-1)) hx hb dX12_broken_47 (by decide) ?_
        refine lv_iconst (v := (-1)) hx hb dX12_broken_48 (by decide) ?_
        refine lv_iload_n hx hb dX12_broken_49 rfl (lv_at hl 2 rfl) ?_
        obtain ⟨z19, wz19, hf⟩ := ha_bds hf
        refine ha_callVi (As := [.int (-1), .int (-1), .int p1]) (rest := []) hZ ⟨hx, hb, hml, hown, hts⟩ hK hz hP hD hS (c_X12_breaks hZ hN h0 wz19) cw0 hN h0 (by decide) rfl rfl hl.1 rfl (Nat.le_of_ble_eq_true rfl) dX12_broken_50 ⟨Nat.le_of_ble_eq_true rfl, Nat.le_of_ble_eq_true rfl⟩ (fun H locs hP hD hS => ?_)
        refine lv_if_eq (tgt := 58) hx hb dX12_broken_53 (by decide) (fun c20 => ?_) (fun c20 => ?_)
        · have hf := ha_it hf c20
          refine lv_iconst (v := 0) hx hb dX12_broken_58 (by decide) ?_
          refine lv_istore (lv' := [(4, .int 0), (3, .int x18), (0, .ref (ad p0)), (1, .int p1), (2, .int p2)]) hx hb dX12_broken_59 hl (by decide) rfl (fun ls hl => ?_)
          have key25 : ∀ (K : ((Int32 × ha_St) ⊕ (Int32 × ha_St)) → Option (Int32 × ha_St)), (∀ (v3 : Int32) (S : ha_St) (H : Heap) (locs : List Loc) (ls : Array Slot), K (.inl (v3, S)) = some out → va_P D vwCl (ha_wl cs ad mo_kd mo_ln N S) H → va_D (ha_A ad N) (ha_wl cs ad mo_kd mo_ln N S) → va_S (ha_A ad N) s.heap H locs → lv_has ls 6 [(0, .ref (ad p0)), (1, .int p1), (2, .int p2), (3, .int v3)] → W p l e (headSpec wsX12_broken ({ frames := 6, cells := 0, slots := 0, locals := 141 } : Room)).room s m ([.ref (ad p0), .int p1, .int p2] : List Value).toArray below meth c H locs 0 0 (MQ below (va_Qi (fun (r : Int32) (_ : Unit) => r = out.1) (fun _ => ha_H D cs ad mo_kd mo_ln N out.2) (ha_A ad N)) ([.ref (ad p0), .int p1, .int p2] : List Value).toArray s 0 0 (ha_A ad N)) (F0 m 86 ls [])) → (∀ r, K (.inr r) = some out → r = out) → ∀ (n : Nat) (v3 : Int32) (v4 : Int32) (S : ha_St) (H : Heap) (locs : List Loc) (ls : Array Slot), (f_X12_broken_L61i p0 p1 p2 n (v3, v4, S)).bind K = some out → va_P D vwCl (ha_wl cs ad mo_kd mo_ln N S) H → va_D (ha_A ad N) (ha_wl cs ad mo_kd mo_ln N S) → va_S (ha_A ad N) s.heap H locs → lv_has ls 6 [(0, .ref (ad p0)), (1, .int p1), (2, .int p2), (3, .int v3), (4, .int v4)] → W p l e (headSpec wsX12_broken ({ frames := 6, cells := 0, slots := 0, locals := 141 } : Room)).room s m ([.ref (ad p0), .int p1, .int p2] : List Value).toArray below meth c H locs 0 0 (MQ below (va_Qi (fun (r : Int32) (_ : Unit) => r = out.1) (fun _ => ha_H D cs ad mo_kd mo_ln N out.2) (ha_A ad N)) ([.ref (ad p0), .int p1, .int p2] : List Value).toArray s 0 0 (ha_A ad N)) (F0 m 61 ls []) := by
            intro K hk hke n
            induction n with
            | zero =>
              intro v3 v4 S H locs ls hf
              exact absurd (show (none : Option (Int32 × ha_St)) = some out from hf) (fun h => by cases h)
            | succ n ih =>
              intro v3 v4 S H locs ls hf  hP hD hS hl
              have hf : (f_X12_broken_L61 p0 p1 p2 (f_X12_broken_L61i p0 p1 p2 n) v3 v4 S).bind K = some out := hf
              unfold f_X12_broken_L61 at hf
              refine lv_iload hx hb dX12_broken_61 (lv_at hl 4 rfl) ?_
              refine lv_iload_n hx hb dX12_broken_63 rfl (lv_at hl 3 rfl) ?_
              refine lv_icmp_ge (tgt := 86) hx hb dX12_broken_64 (by decide) (fun c21 => ?_) (fun c21 => ?_)
              · have hf := ha_it hf c21
                exact hk v3 S H locs ls hf  hP hD hS (lv_sub hl [0, 1, 2, 3] rfl)
              · have hf := ha_if hf c21
                refine lv_aload_n hx hb dX12_broken_67 rfl (lv_at hl 0 rfl) ?_
                refine lv_iload hx hb dX12_broken_68 (lv_at hl 4 rfl) ?_
                refine lv_iconst (v := (-1)) hx hb dX12_broken_70 (by decide) ?_
                refine lv_iload_n hx hb dX12_broken_71 rfl (lv_at hl 1 rfl) ?_
                obtain ⟨z22, wz22, hf⟩ := ha_bds hf
                refine ha_callVi (As := [.int v4, .int (-1), .int p1]) (rest := []) hZ ⟨hx, hb, hml, hown, hts⟩ hK hz hP hD hS (c_X12_breaks hZ hN h0 wz22) cw0 hN h0 (by decide) rfl rfl hl.1 rfl (Nat.le_of_ble_eq_true rfl) dX12_broken_72 ⟨Nat.le_of_ble_eq_true rfl, Nat.le_of_ble_eq_true rfl⟩ (fun H locs hP hD hS => ?_)
                refine lv_if_eq (tgt := 80) hx hb dX12_broken_75 (by decide) (fun c23 => ?_) (fun c23 => ?_)
                · have hf := ha_it hf c23
                  obtain ⟨x24, ex24⟩ : ∃ y : Int32, y = (v4 : Int32) + 1 := ⟨_, rfl⟩
                  have hf := ha_nms hf ex24
                  refine lv_iinc (v := x24) (lv' := [(4, .int x24), (0, .ref (ad p0)), (1, .int p1), (2, .int p2), (3, .int v3)]) hx hb dX12_broken_80 hl (k := 4) rfl (by rw [ex24]; rfl) (by decide) rfl (fun ls hl => ?_)
                  refine lv_goto (tgt := 61) hx hb dX12_broken_83 (by decide) ?_
                  exact ih v3 x24 z22.2 H locs ls hf  hP hD hS (lv_sub hl [1, 2, 3, 4, 0] rfl)
                · have hf := ha_if hf c23
                  refine lv_iconst (v := 1) hx hb dX12_broken_78 (by decide) ?_
                  have he := hke _ hf
                  exact ha_reti hx hb hr hlocks hP hD hS dX12_broken_79 (ha_e1 he) (ha_e2 he)
          refine key25 _ (fun v3 S H locs ls hf  hP hD hS hl => ?_) (fun r h => Option.some.inj h) ha_fu x18 0 z19.2 H locs ls (ha_as hf)  hP hD hS (lv_sub hl [2, 3, 4, 1, 0] rfl)
          have hf : (f_X12_broken_J86 p0 p1 p2 v3 S).bind some = some out := hf
          exact J86 v3 S H locs ls hf  hP hD hS (lv_sub hl [0, 1, 2, 3] rfl)
        · have hf := ha_if hf c20
          refine lv_iconst (v := 0) hx hb dX12_broken_56 (by decide) ?_
          have he := Option.some.inj hf
          exact ha_reti hx hb hr hlocks hP hD hS dX12_broken_57 (ha_e1 he) (ha_e2 he)
      · have hf := ha_if hf c17
        exact J34  S12 H locs ls hf  hP hD hS (lv_sub hl [0, 1, 2] rfl)

set_option maxHeartbeats 4000000 in
set_option maxRecDepth 100000 in
theorem c_X12_fogAt {l : Launch} {D : va_G} {cs : Nat → ClassId} {ad : Nat → Nat} {N : List Nat} {Z : State → Prop} (hZ : ha_Zok (ha_A ad N) Z) (hN : ∀ x, mo_kd x < 999 → x ∈ N) {p0 : Nat} {p1 : Int32} {p2 : Int32} {S : ha_St} {out : Int32 × ha_St} (h0 : mo_kd p0 = 12) (hf : f_X12_fogAt p0 p1 p2 S = some out) : ha_Ci l D cs ad mo_kd mo_ln N Z yX12_fogAt wsX12_fogAt ({ frames := 0, cells := 0, slots := 0, locals := 0 } : Room) [.ref (ad p0), .int p1, .int p2] S out.1 out.2 := by
  refine Met.ofW (cc := cX12_fogAt) (maxL := 3) (ret := (some .int)) (by decide +kernel) rfl ?_
  intro p e s m args below meth c s₁ B hml hv
  obtain ⟨rfl, hP, hD, hK, hz⟩ := hv
  have hx := B.exec
  have hb := B.bytes
  have hr := B.returns
  have hts := atoms_spec (ws := wsX12_fogAt) B.pre
  have hown : s.vm.findClass RX12 = some m.cls := findClass_of_methodNamed B.named
  have hlocks := B.notSynchronized
  have hS : va_S (ha_A ad N) s.heap s.heap [] := va_S.rf
  have hi12 : ∀ w ∈ wsX120, w ∈ wsX12_fogAt := fun w h => List.mem_cons_of_mem _ (List.mem_append_right _ h)
  have q353 : ha_Fk s ([.ref (ad p0), .int p1, .int p2] : List Value).toArray RX12 353 12 62 0 := ⟨RX12, TX12, 83, wsX12_fogAt, rfl, by decide, by decide, rfl, rfl, hts, hi12, hts (.fieldLink RX12 353 "HillArmsModel" "brokenMany" "I") (by decide +kernel)⟩
  have q93 : ha_Fk s ([.ref (ad p0), .int p1, .int p2] : List Value).toArray RX12 93 12 61 1 := ⟨RX12, TX12, 83, wsX12_fogAt, rfl, by decide, by decide, rfl, rfl, hts, hi12, hts (.fieldLink RX12 93 "HillArmsModel" "brokenAhead" "[I") (by decide +kernel)⟩
  have q90 : ha_Fk s ([.ref (ad p0), .int p1, .int p2] : List Value).toArray RX12 90 12 60 1 := ⟨RX12, TX12, 83, wsX12_fogAt, rfl, by decide, by decide, rfl, rfl, hts, hi12, hts (.fieldLink RX12 90 "HillArmsModel" "brokenTick" "[I") (by decide +kernel)⟩
  have r138 : ha_Fp s ([.ref (ad p0), .int p1, .int p2] : List Value).toArray RX12 138 12 0 0 .int := ⟨RX12, TX12, 83, wsX12_fogAt, tyX12, rfl, by decide, by decide, rfl, rfl, hts, hi12, hts (.fieldLink RX12 138 "HillArmsModel" "thrown" "I") (by decide +kernel), tyX12_ok, nmX12, rfl, by decide +kernel⟩
  have hl := lv_entry ([.ref (ad p0), .int p1, .int p2]) (n := 3) (Nat.le_of_ble_eq_true rfl)
  rw [lg_entry_eq]
  generalize (lg_sl ([.ref (ad p0), .int p1, .int p2]) ++ List.replicate (3 - (lg_sl ([.ref (ad p0), .int p1, .int p2])).length) Slot.unset).toArray = ls at hl ⊢
  have hl : lv_has ls 3 [(0, .ref (ad p0)), (1, .int p1), (2, .int p2)] := hl
  refine (fun (K0 : ∀ (H : Heap) (locs : List Loc), va_P D vwCl (ha_wl cs ad mo_kd mo_ln N S) H → va_S (ha_A ad N) s.heap H locs → W p l e (headSpec wsX12_fogAt ({ frames := 0, cells := 0, slots := 0, locals := 0 } : Room)).room s m ([.ref (ad p0), .int p1, .int p2] : List Value).toArray below meth c H locs 0 0 (MQ below (va_Qi (fun (r : Int32) (_ : Unit) => r = out.1) (fun _ => ha_H D cs ad mo_kd mo_ln N out.2) (ha_A ad N)) ([.ref (ad p0), .int p1, .int p2] : List Value).toArray s 0 0 (ha_A ad N)) (F0 m 0 ls [])) => K0 _ _ hP hS) ?_
  intro H locs hP hS
  have hf := ha_rt hf
  have J47 : ∀ (k0 : Int32) (S : ha_St) (H : Heap) (locs : List Loc) (ls : Array Slot), (f_X12_fogAt_J47 p0 p1 p2 k0 S).bind some = some out → va_P D vwCl (ha_wl cs ad mo_kd mo_ln N S) H → va_D (ha_A ad N) (ha_wl cs ad mo_kd mo_ln N S) → va_S (ha_A ad N) s.heap H locs → lv_has ls 3 [(0, .ref (ad p0)), (1, .int p1), (2, .int p2)] → W p l e (headSpec wsX12_fogAt ({ frames := 0, cells := 0, slots := 0, locals := 0 } : Room)).room s m ([.ref (ad p0), .int p1, .int p2] : List Value).toArray below meth c H locs 0 0 (MQ below (va_Qi (fun (r : Int32) (_ : Unit) => r = out.1) (fun _ => ha_H D cs ad mo_kd mo_ln N out.2) (ha_A ad N)) ([.ref (ad p0), .int p1, .int p2] : List Value).toArray s 0 0 (ha_A ad N)) (F0 m 47 ls [.int k0]) := by
    intro k0 S H locs ls hf  hP hD hS hl
    unfold f_X12_fogAt_J47 at hf
    have he := Option.some.inj hf
    exact ha_reti hx hb hr hlocks hP hD hS dX12_fogAt_47 (ha_e1 he) (ha_e2 he)
  have J17 : ∀  (S : ha_St) (H : Heap) (locs : List Loc) (ls : Array Slot), (f_X12_fogAt_J17 p0 p1 p2  S).bind some = some out → va_P D vwCl (ha_wl cs ad mo_kd mo_ln N S) H → va_D (ha_A ad N) (ha_wl cs ad mo_kd mo_ln N S) → va_S (ha_A ad N) s.heap H locs → lv_has ls 3 [(0, .ref (ad p0)), (1, .int p1), (2, .int p2)] → W p l e (headSpec wsX12_fogAt ({ frames := 0, cells := 0, slots := 0, locals := 0 } : Room)).room s m ([.ref (ad p0), .int p1, .int p2] : List Value).toArray below meth c H locs 0 0 (MQ below (va_Qi (fun (r : Int32) (_ : Unit) => r = out.1) (fun _ => ha_H D cs ad mo_kd mo_ln N out.2) (ha_A ad N)) ([.ref (ad p0), .int p1, .int p2] : List Value).toArray s 0 0 (ha_A ad N)) (F0 m 17 ls []) := by
    intro  S H locs ls hf  hP hD hS hl
    unfold f_X12_fogAt_J17 at hf
    refine lv_iconst (v := (-1)) hx hb dX12_fogAt_17 (by decide) ?_
    have he := Option.some.inj hf
    exact ha_reti hx hb hr hlocks hP hD hS dX12_fogAt_18 (ha_e1 he) (ha_e2 he)
  unfold f_X12_fogAt at hf
  refine lv_aload_n hx hb dX12_fogAt_0 rfl (lv_at hl 0 rfl) ?_
  refine lv_iconst (v := 0) hx hb dX12_fogAt_1 (by decide) ?_
  refine ha_puti hx hb hown hK hP hD hS r138 hN h0 dX12_fogAt_2 (fun S1 H locs eS1 hP hD hS => ?_)
  have hf := ha_nms hf eS1
  refine lv_iload_n hx hb dX12_fogAt_5 rfl (lv_at hl 1 rfl) ?_
  refine lv_if_lt (tgt := 17) hx hb dX12_fogAt_6 (by decide) (fun c2 => ?_) (fun c2 => ?_)
  · have hf := ha_it hf c2
    exact J17  S1 H locs ls hf  hP hD hS (lv_sub hl [0, 1, 2] rfl)
  · have hf := ha_if hf c2
    refine lv_iload_n hx hb dX12_fogAt_9 rfl (lv_at hl 1 rfl) ?_
    refine lv_aload_n hx hb dX12_fogAt_10 rfl (lv_at hl 0 rfl) ?_
    refine ha_geti hx hb hown hK hP q353 hN h0 dX12_fogAt_11 ?_
    refine lv_icmp_lt (tgt := 19) hx hb dX12_fogAt_14 (by decide) (fun c3 => ?_) (fun c3 => ?_)
    · have hf := ha_it hf c3
      refine lv_iload_n hx hb dX12_fogAt_19 rfl (lv_at hl 2 rfl) ?_
      refine lv_if_ne (tgt := 32) hx hb dX12_fogAt_20 (by decide) (fun c4 => ?_) (fun c4 => ?_)
      · have hf := ha_it hf c4
        refine lv_iload_n hx hb dX12_fogAt_32 rfl (lv_at hl 2 rfl) ?_
        refine lv_iconst (v := 1) hx hb dX12_fogAt_33 (by decide) ?_
        refine lv_icmp_ne (tgt := 46) hx hb dX12_fogAt_34 (by decide) (fun c5 => ?_) (fun c5 => ?_)
        · have hf := ha_it hf c5
          refine lv_iconst (v := (-1)) hx hb dX12_fogAt_46 (by decide) ?_
          exact J47 (-1) S1 H locs ls hf  hP hD hS (lv_sub hl [0, 1, 2] rfl)
        · have hf := ha_if hf (fun q => q c5)
          refine lv_aload_n hx hb dX12_fogAt_37 rfl (lv_at hl 0 rfl) ?_
          obtain ⟨r6, wr6, hf⟩ := ha_bds hf
          obtain ⟨wr6, hr6⟩ := ha_rf_some wr6
          refine ha_getr hx hb hown hK hP q93 hN h0 wr6 dX12_fogAt_38 ?_
          refine lv_iload_n hx hb dX12_fogAt_41 rfl (lv_at hl 1 rfl) ?_
          obtain ⟨g7, hf⟩ := ha_gds hf
          refine ha_iald hx hb hK hP hN hr6 g7 dX12_fogAt_42 ?_
          refine lv_goto (tgt := 47) hx hb dX12_fogAt_43 (by decide) ?_
          exact J47 ((ha_gA S1 r6 (p1 : Int32).toNatClampNeg)) S1 H locs ls hf  hP hD hS (lv_sub hl [0, 1, 2] rfl)
      · have hf := ha_if hf (fun q => q c4)
        refine lv_aload_n hx hb dX12_fogAt_23 rfl (lv_at hl 0 rfl) ?_
        obtain ⟨r8, wr8, hf⟩ := ha_bds hf
        obtain ⟨wr8, hr8⟩ := ha_rf_some wr8
        refine ha_getr hx hb hown hK hP q90 hN h0 wr8 dX12_fogAt_24 ?_
        refine lv_iload_n hx hb dX12_fogAt_27 rfl (lv_at hl 1 rfl) ?_
        obtain ⟨g9, hf⟩ := ha_gds hf
        refine ha_iald hx hb hK hP hN hr8 g9 dX12_fogAt_28 ?_
        refine lv_goto (tgt := 47) hx hb dX12_fogAt_29 (by decide) ?_
        exact J47 ((ha_gA S1 r8 (p1 : Int32).toNatClampNeg)) S1 H locs ls hf  hP hD hS (lv_sub hl [0, 1, 2] rfl)
    · have hf := ha_if hf c3
      exact J17  S1 H locs ls hf  hP hD hS (lv_sub hl [0, 1, 2] rfl)

set_option maxHeartbeats 4000000 in
set_option maxRecDepth 100000 in
theorem c_X12_isTold {l : Launch} {D : va_G} {cs : Nat → ClassId} {ad : Nat → Nat} {N : List Nat} {Z : State → Prop} (hZ : ha_Zok (ha_A ad N) Z) (hN : ∀ x, mo_kd x < 999 → x ∈ N) {p0 : Nat} {p1 : Int32} {p2 : Int32} {S : ha_St} {out : Int32 × ha_St} (h0 : mo_kd p0 = 12) (hf : f_X12_isTold p0 p1 p2 S = some out) : ha_Ci l D cs ad mo_kd mo_ln N Z yX12_isTold wsX12_isTold ({ frames := 1, cells := 0, slots := 0, locals := 22 } : Room) [.ref (ad p0), .int p1, .int p2] S out.1 out.2 := by
  refine Met.ofW (cc := cX12_isTold) (maxL := 4) (ret := (some .boolean)) (by decide +kernel) rfl ?_
  intro p e s m args below meth c s₁ B hml hv
  obtain ⟨rfl, hP, hD, hK, hz⟩ := hv
  have hx := B.exec
  have hb := B.bytes
  have hr := B.returns
  have hts := atoms_spec (ws := wsX12_isTold) B.pre
  have hown : s.vm.findClass RX12 = some m.cls := findClass_of_methodNamed B.named
  have hlocks := B.notSynchronized
  have hS : va_S (ha_A ad N) s.heap s.heap [] := va_S.rf
  have hi12 : ∀ w ∈ wsX120, w ∈ wsX12_isTold := fun w h => List.mem_cons_of_mem _ (List.mem_append_right _ h)
  have q7 : ha_Fk s ([.ref (ad p0), .int p1, .int p2] : List Value).toArray RX12 7 12 1 1 := ⟨RX12, TX12, 83, wsX12_isTold, rfl, by decide, by decide, rfl, rfl, hts, hi12, hts (.fieldLink RX12 7 "HillArmsModel" "tape" "[I") (by decide +kernel)⟩
  have cw0 := va_cwS (R := (headSpec wsX12_isTold ({ frames := 1, cells := 0, slots := 0, locals := 22 } : Room)).room) 3 hts gX12_isTold_X12_isIn (rm := ({ frames := 0, cells := 0, slots := 0, locals := 0 } : Room)) (mc := 0) (ms := 0) rfl rfl rfl (by decide +kernel) ⟨Nat.le_of_ble_eq_true rfl, Nat.le_of_ble_eq_true rfl⟩
  have cw1 := va_cwS (R := (headSpec wsX12_isTold ({ frames := 1, cells := 0, slots := 0, locals := 22 } : Room)).room) 1 hts gX12_isTold_X12_isLetter (rm := ({ frames := 0, cells := 0, slots := 0, locals := 0 } : Room)) (mc := 0) (ms := 0) rfl rfl rfl (by decide +kernel) ⟨Nat.le_of_ble_eq_true rfl, Nat.le_of_ble_eq_true rfl⟩
  have hl := lv_entry ([.ref (ad p0), .int p1, .int p2]) (n := 4) (Nat.le_of_ble_eq_true rfl)
  rw [lg_entry_eq]
  generalize (lg_sl ([.ref (ad p0), .int p1, .int p2]) ++ List.replicate (4 - (lg_sl ([.ref (ad p0), .int p1, .int p2])).length) Slot.unset).toArray = ls at hl ⊢
  have hl : lv_has ls 4 [(0, .ref (ad p0)), (1, .int p1), (2, .int p2)] := hl
  refine (fun (K0 : ∀ (H : Heap) (locs : List Loc), va_P D vwCl (ha_wl cs ad mo_kd mo_ln N S) H → va_S (ha_A ad N) s.heap H locs → W p l e (headSpec wsX12_isTold ({ frames := 1, cells := 0, slots := 0, locals := 22 } : Room)).room s m ([.ref (ad p0), .int p1, .int p2] : List Value).toArray below meth c H locs 0 0 (MQ below (va_Qi (fun (r : Int32) (_ : Unit) => r = out.1) (fun _ => ha_H D cs ad mo_kd mo_ln N out.2) (ha_A ad N)) ([.ref (ad p0), .int p1, .int p2] : List Value).toArray s 0 0 (ha_A ad N)) (F0 m 0 ls [])) => K0 _ _ hP hS) ?_
  intro H locs hP hS
  have hf := ha_rt hf
  have J86 : ∀  (S : ha_St) (H : Heap) (locs : List Loc) (ls : Array Slot), (f_X12_isTold_J86 p0 p1 p2  S).bind some = some out → va_P D vwCl (ha_wl cs ad mo_kd mo_ln N S) H → va_D (ha_A ad N) (ha_wl cs ad mo_kd mo_ln N S) → va_S (ha_A ad N) s.heap H locs → lv_has ls 4 [(0, .ref (ad p0)), (1, .int p1), (2, .int p2)] → W p l e (headSpec wsX12_isTold ({ frames := 1, cells := 0, slots := 0, locals := 22 } : Room)).room s m ([.ref (ad p0), .int p1, .int p2] : List Value).toArray below meth c H locs 0 0 (MQ below (va_Qi (fun (r : Int32) (_ : Unit) => r = out.1) (fun _ => ha_H D cs ad mo_kd mo_ln N out.2) (ha_A ad N)) ([.ref (ad p0), .int p1, .int p2] : List Value).toArray s 0 0 (ha_A ad N)) (F0 m 86 ls []) := by
    intro  S H locs ls hf  hP hD hS hl
    unfold f_X12_isTold_J86 at hf
    refine lv_iconst (v := 1) hx hb dX12_isTold_86 (by decide) ?_
    have he := Option.some.inj hf
    exact ha_retz hx hb hr hlocks hP hD hS dX12_isTold_87 (by decide) (ha_e1 he) (ha_e2 he)
  have J33 : ∀  (S : ha_St) (H : Heap) (locs : List Loc) (ls : Array Slot), (f_X12_isTold_J33 p0 p1 p2  S).bind some = some out → va_P D vwCl (ha_wl cs ad mo_kd mo_ln N S) H → va_D (ha_A ad N) (ha_wl cs ad mo_kd mo_ln N S) → va_S (ha_A ad N) s.heap H locs → lv_has ls 4 [(0, .ref (ad p0)), (1, .int p1), (2, .int p2)] → W p l e (headSpec wsX12_isTold ({ frames := 1, cells := 0, slots := 0, locals := 22 } : Room)).room s m ([.ref (ad p0), .int p1, .int p2] : List Value).toArray below meth c H locs 0 0 (MQ below (va_Qi (fun (r : Int32) (_ : Unit) => r = out.1) (fun _ => ha_H D cs ad mo_kd mo_ln N out.2) (ha_A ad N)) ([.ref (ad p0), .int p1, .int p2] : List Value).toArray s 0 0 (ha_A ad N)) (F0 m 33 ls []) := by
    intro  S H locs ls hf  hP hD hS hl
    unfold f_X12_isTold_J33 at hf
    refine lv_iconst (v := 0) hx hb dX12_isTold_33 (by decide) ?_
    have he := Option.some.inj hf
    exact ha_retz hx hb hr hlocks hP hD hS dX12_isTold_34 (by decide) (ha_e1 he) (ha_e2 he)
  unfold f_X12_isTold at hf
  refine lv_iload_n hx hb dX12_isTold_0 rfl (lv_at hl 1 rfl) ?_
  refine lv_iconst (v := 1) hx hb dX12_isTold_1 (by decide) ?_
  refine lv_iload_n hx hb dX12_isTold_2 rfl (lv_at hl 2 rfl) ?_
  obtain ⟨z1, wz1, hf⟩ := ha_bds hf
  refine ha_callSi (As := [.int p1, .int 1, .int p2]) (rest := []) hZ ⟨hx, hb, hml, hown, hts⟩ hK hz hP hD hS (c_X12_isIn   wz1) cw0 rfl hl.1 rfl (Nat.le_of_ble_eq_true rfl) dX12_isTold_3 ⟨Nat.le_of_ble_eq_true rfl, Nat.le_of_ble_eq_true rfl⟩ (fun H locs hP hD hS => ?_)
  refine lv_if_eq (tgt := 33) hx hb dX12_isTold_6 (by decide) (fun c2 => ?_) (fun c2 => ?_)
  · have hf := ha_it hf c2
    exact J33  S H locs ls hf  hP hD hS (lv_sub hl [0, 1, 2] rfl)
  · have hf := ha_if hf c2
    refine lv_aload_n hx hb dX12_isTold_9 rfl (lv_at hl 0 rfl) ?_
    obtain ⟨r3, wr3, hf⟩ := ha_bds hf
    obtain ⟨wr3, hr3⟩ := ha_rf_some wr3
    refine ha_getr hx hb hown hK hP q7 hN h0 wr3 dX12_isTold_10 ?_
    refine lv_iconst (v := 0) hx hb dX12_isTold_13 (by decide) ?_
    obtain ⟨g4, hf⟩ := ha_gds hf
    refine ha_iald hx hb hK hP hN hr3 g4 dX12_isTold_14 ?_
    refine lv_bipush (v := 32) hx hb dX12_isTold_15 (by decide) ?_
    refine lv_icmp_eq (tgt := 33) hx hb dX12_isTold_17 (by decide) (fun c5 => ?_) (fun c5 => ?_)
    · have hf := ha_it hf c5
      exact J33  S H locs ls hf  hP hD hS (lv_sub hl [0, 1, 2] rfl)
    · have hf := ha_if hf c5
      refine lv_aload_n hx hb dX12_isTold_20 rfl (lv_at hl 0 rfl) ?_
      obtain ⟨r6, wr6, hf⟩ := ha_bds hf
      obtain ⟨wr6, hr6⟩ := ha_rf_some wr6
      refine ha_getr hx hb hown hK hP q7 hN h0 wr6 dX12_isTold_21 ?_
      refine lv_iload_n hx hb dX12_isTold_24 rfl (lv_at hl 1 rfl) ?_
      refine lv_iconst (v := 1) hx hb dX12_isTold_25 (by decide) ?_
      refine lv_isub hx hb dX12_isTold_26 ?_
      obtain ⟨g7, hf⟩ := ha_gds hf
      refine ha_iald hx hb hK hP hN hr6 g7 dX12_isTold_27 ?_
      refine lv_bipush (v := 32) hx hb dX12_isTold_28 (by decide) ?_
      refine lv_icmp_ne (tgt := 35) hx hb dX12_isTold_30 (by decide) (fun c8 => ?_) (fun c8 => ?_)
      · have hf := ha_it hf c8
        refine lv_iconst (v := 0) hx hb dX12_isTold_35 (by decide) ?_
        refine lv_istore_n (lv' := [(3, .int 0), (0, .ref (ad p0)), (1, .int p1), (2, .int p2)]) hx hb dX12_isTold_36 rfl hl (by decide) rfl (fun ls hl => ?_)
        have key21 : ∀ (K : ((ha_St) ⊕ (Int32 × ha_St)) → Option (Int32 × ha_St)), (∀  (S : ha_St) (H : Heap) (locs : List Loc) (ls : Array Slot), K (.inl S) = some out → va_P D vwCl (ha_wl cs ad mo_kd mo_ln N S) H → va_D (ha_A ad N) (ha_wl cs ad mo_kd mo_ln N S) → va_S (ha_A ad N) s.heap H locs → lv_has ls 4 [(0, .ref (ad p0)), (1, .int p1), (2, .int p2)] → W p l e (headSpec wsX12_isTold ({ frames := 1, cells := 0, slots := 0, locals := 22 } : Room)).room s m ([.ref (ad p0), .int p1, .int p2] : List Value).toArray below meth c H locs 0 0 (MQ below (va_Qi (fun (r : Int32) (_ : Unit) => r = out.1) (fun _ => ha_H D cs ad mo_kd mo_ln N out.2) (ha_A ad N)) ([.ref (ad p0), .int p1, .int p2] : List Value).toArray s 0 0 (ha_A ad N)) (F0 m 86 ls [])) → (∀ r, K (.inr r) = some out → r = out) → ∀ (n : Nat) (v3 : Int32) (S : ha_St) (H : Heap) (locs : List Loc) (ls : Array Slot), (f_X12_isTold_L37i p0 p1 p2 n (v3, S)).bind K = some out → va_P D vwCl (ha_wl cs ad mo_kd mo_ln N S) H → va_D (ha_A ad N) (ha_wl cs ad mo_kd mo_ln N S) → va_S (ha_A ad N) s.heap H locs → lv_has ls 4 [(0, .ref (ad p0)), (1, .int p1), (2, .int p2), (3, .int v3)] → W p l e (headSpec wsX12_isTold ({ frames := 1, cells := 0, slots := 0, locals := 22 } : Room)).room s m ([.ref (ad p0), .int p1, .int p2] : List Value).toArray below meth c H locs 0 0 (MQ below (va_Qi (fun (r : Int32) (_ : Unit) => r = out.1) (fun _ => ha_H D cs ad mo_kd mo_ln N out.2) (ha_A ad N)) ([.ref (ad p0), .int p1, .int p2] : List Value).toArray s 0 0 (ha_A ad N)) (F0 m 37 ls []) := by
          intro K hk hke n
          induction n with
          | zero =>
            intro v3 S H locs ls hf
            exact absurd (show (none : Option (Int32 × ha_St)) = some out from hf) (fun h => by cases h)
          | succ n ih =>
            intro v3 S H locs ls hf  hP hD hS hl
            have J80 : ∀ (v3 : Int32) (S : ha_St) (H : Heap) (locs : List Loc) (ls : Array Slot), (f_X12_isTold_L37_J80 p0 p1 p2 (f_X12_isTold_L37i p0 p1 p2 n) v3 S).bind K = some out → va_P D vwCl (ha_wl cs ad mo_kd mo_ln N S) H → va_D (ha_A ad N) (ha_wl cs ad mo_kd mo_ln N S) → va_S (ha_A ad N) s.heap H locs → lv_has ls 4 [(0, .ref (ad p0)), (1, .int p1), (2, .int p2), (3, .int v3)] → W p l e (headSpec wsX12_isTold ({ frames := 1, cells := 0, slots := 0, locals := 22 } : Room)).room s m ([.ref (ad p0), .int p1, .int p2] : List Value).toArray below meth c H locs 0 0 (MQ below (va_Qi (fun (r : Int32) (_ : Unit) => r = out.1) (fun _ => ha_H D cs ad mo_kd mo_ln N out.2) (ha_A ad N)) ([.ref (ad p0), .int p1, .int p2] : List Value).toArray s 0 0 (ha_A ad N)) (F0 m 80 ls []) := by
              intro v3 S H locs ls hf  hP hD hS hl
              unfold f_X12_isTold_L37_J80 at hf
              obtain ⟨x9, ex9⟩ : ∃ y : Int32, y = (v3 : Int32) + 1 := ⟨_, rfl⟩
              have hf := ha_nms hf ex9
              refine lv_iinc (v := x9) (lv' := [(3, .int x9), (0, .ref (ad p0)), (1, .int p1), (2, .int p2)]) hx hb dX12_isTold_80 hl (k := 3) rfl (by rw [ex9]; rfl) (by decide) rfl (fun ls hl => ?_)
              refine lv_goto (tgt := 37) hx hb dX12_isTold_83 (by decide) ?_
              exact ih x9 S H locs ls hf  hP hD hS (lv_sub hl [1, 2, 3, 0] rfl)
            have J78 : ∀  (S : ha_St) (H : Heap) (locs : List Loc) (ls : Array Slot), (f_X12_isTold_L37_J78 p0 p1 p2 (f_X12_isTold_L37i p0 p1 p2 n)  S).bind K = some out → va_P D vwCl (ha_wl cs ad mo_kd mo_ln N S) H → va_D (ha_A ad N) (ha_wl cs ad mo_kd mo_ln N S) → va_S (ha_A ad N) s.heap H locs → lv_has ls 4 [(0, .ref (ad p0)), (1, .int p1), (2, .int p2)] → W p l e (headSpec wsX12_isTold ({ frames := 1, cells := 0, slots := 0, locals := 22 } : Room)).room s m ([.ref (ad p0), .int p1, .int p2] : List Value).toArray below meth c H locs 0 0 (MQ below (va_Qi (fun (r : Int32) (_ : Unit) => r = out.1) (fun _ => ha_H D cs ad mo_kd mo_ln N out.2) (ha_A ad N)) ([.ref (ad p0), .int p1, .int p2] : List Value).toArray s 0 0 (ha_A ad N)) (F0 m 78 ls []) := by
              intro  S H locs ls hf  hP hD hS hl
              unfold f_X12_isTold_L37_J78 at hf
              refine lv_iconst (v := 0) hx hb dX12_isTold_78 (by decide) ?_
              have he := hke _ hf
              exact ha_retz hx hb hr hlocks hP hD hS dX12_isTold_79 (by decide) (ha_e1 he) (ha_e2 he)
            have hf : (f_X12_isTold_L37 p0 p1 p2 (f_X12_isTold_L37i p0 p1 p2 n) v3 S).bind K = some out := hf
            unfold f_X12_isTold_L37 at hf
            refine lv_iload_n hx hb dX12_isTold_37 rfl (lv_at hl 3 rfl) ?_
            refine lv_iload_n hx hb dX12_isTold_38 rfl (lv_at hl 1 rfl) ?_
            refine lv_icmp_ge (tgt := 86) hx hb dX12_isTold_39 (by decide) (fun c10 => ?_) (fun c10 => ?_)
            · have hf := ha_it hf c10
              exact hk  S H locs ls hf  hP hD hS (lv_sub hl [0, 1, 2] rfl)
            · have hf := ha_if hf c10
              refine lv_aload_n hx hb dX12_isTold_42 rfl (lv_at hl 0 rfl) ?_
              obtain ⟨r11, wr11, hf⟩ := ha_bds hf
              obtain ⟨wr11, hr11⟩ := ha_rf_some wr11
              refine ha_getr hx hb hown hK hP q7 hN h0 wr11 dX12_isTold_43 ?_
              refine lv_iload_n hx hb dX12_isTold_46 rfl (lv_at hl 3 rfl) ?_
              obtain ⟨g12, hf⟩ := ha_gds hf
              refine ha_iald hx hb hK hP hN hr11 g12 dX12_isTold_47 ?_
              obtain ⟨z13, wz13, hf⟩ := ha_bds hf
              refine ha_callSi (As := [.int ((ha_gA S r11 (v3 : Int32).toNatClampNeg))]) (rest := []) hZ ⟨hx, hb, hml, hown, hts⟩ hK hz hP hD hS (c_X12_isLetter   wz13) cw1 rfl hl.1 rfl (Nat.le_of_ble_eq_true rfl) dX12_isTold_48 ⟨Nat.le_of_ble_eq_true rfl, Nat.le_of_ble_eq_true rfl⟩ (fun H locs hP hD hS => ?_)
              refine lv_if_ne (tgt := 80) hx hb dX12_isTold_51 (by decide) (fun c14 => ?_) (fun c14 => ?_)
              · have hf := ha_it hf c14
                exact J80 v3 S H locs ls hf  hP hD hS (lv_sub hl [0, 1, 2, 3] rfl)
              · have hf := ha_if hf (fun q => q c14)
                refine lv_aload_n hx hb dX12_isTold_54 rfl (lv_at hl 0 rfl) ?_
                obtain ⟨r15, wr15, hf⟩ := ha_bds hf
                obtain ⟨wr15, hr15⟩ := ha_rf_some wr15
                refine ha_getr hx hb hown hK hP q7 hN h0 wr15 dX12_isTold_55 ?_
                refine lv_iload_n hx hb dX12_isTold_58 rfl (lv_at hl 3 rfl) ?_
                obtain ⟨g16, hf⟩ := ha_gds hf
                refine ha_iald hx hb hK hP hN hr15 g16 dX12_isTold_59 ?_
                refine lv_bipush (v := 32) hx hb dX12_isTold_60 (by decide) ?_
                refine lv_icmp_ne (tgt := 78) hx hb dX12_isTold_62 (by decide) (fun c17 => ?_) (fun c17 => ?_)
                · have hf := ha_it hf c17
                  exact J78  S H locs ls hf  hP hD hS (lv_sub hl [0, 1, 2] rfl)
                · have hf := ha_if hf (fun q => q c17)
                  refine lv_aload_n hx hb dX12_isTold_65 rfl (lv_at hl 0 rfl) ?_
                  obtain ⟨r18, wr18, hf⟩ := ha_bds hf
                  obtain ⟨wr18, hr18⟩ := ha_rf_some wr18
                  refine ha_getr hx hb hown hK hP q7 hN h0 wr18 dX12_isTold_66 ?_
                  refine lv_iload_n hx hb dX12_isTold_69 rfl (lv_at hl 3 rfl) ?_
                  refine lv_iconst (v := 1) hx hb dX12_isTold_70 (by decide) ?_
                  refine lv_isub hx hb dX12_isTold_71 ?_
                  obtain ⟨g19, hf⟩ := ha_gds hf
                  refine ha_iald hx hb hK hP hN hr18 g19 dX12_isTold_72 ?_
                  refine lv_bipush (v := 32) hx hb dX12_isTold_73 (by decide) ?_
                  refine lv_icmp_ne (tgt := 80) hx hb dX12_isTold_75 (by decide) (fun c20 => ?_) (fun c20 => ?_)
                  · have hf := ha_it hf c20
                    exact J80 v3 S H locs ls hf  hP hD hS (lv_sub hl [0, 1, 2, 3] rfl)
                  · have hf := ha_if hf (fun q => q c20)
                    exact J78  S H locs ls hf  hP hD hS (lv_sub hl [0, 1, 2] rfl)
        refine key21 _ (fun  S H locs ls hf  hP hD hS hl => ?_) (fun r h => Option.some.inj h) ha_fu 0 S H locs ls (ha_as hf)  hP hD hS (lv_sub hl [1, 2, 3, 0] rfl)
        have hf : (f_X12_isTold_J86 p0 p1 p2  S).bind some = some out := hf
        exact J86  S H locs ls hf  hP hD hS (lv_sub hl [0, 1, 2] rfl)
      · have hf := ha_if hf (fun q => q c8)
        exact J33  S H locs ls hf  hP hD hS (lv_sub hl [0, 1, 2] rfl)

set_option maxHeartbeats 4000000 in
set_option maxRecDepth 100000 in
theorem c_X12_entry {l : Launch} {D : va_G} {cs : Nat → ClassId} {ad : Nat → Nat} {N : List Nat} {Z : State → Prop} (hZ : ha_Zok (ha_A ad N) Z) (hN : ∀ x, mo_kd x < 999 → x ∈ N) {p0 : Nat} {S : ha_St} {out : Int32 × ha_St} (h0 : mo_kd p0 = 12) (hf : f_X12_entry p0 S = some out) : ha_Ci l D cs ad mo_kd mo_ln N Z yX12_entry wsX12_entry ({ frames := 2, cells := 0, slots := 0, locals := 45 } : Room) [.ref (ad p0)] S out.1 out.2 := by
  refine Met.ofW (cc := cX12_entry) (maxL := 5) (ret := (some .int)) (by decide +kernel) rfl ?_
  intro p e s m args below meth c s₁ B hml hv
  obtain ⟨rfl, hP, hD, hK, hz⟩ := hv
  have hx := B.exec
  have hb := B.bytes
  have hr := B.returns
  have hts := atoms_spec (ws := wsX12_entry) B.pre
  have hown : s.vm.findClass RX12 = some m.cls := findClass_of_methodNamed B.named
  have hlocks := B.notSynchronized
  have hS : va_S (ha_A ad N) s.heap s.heap [] := va_S.rf
  have hi12 : ∀ w ∈ wsX120, w ∈ wsX12_entry := fun w h => List.mem_cons_of_mem _ (List.mem_append_right _ h)
  have q99 : ha_Fk s ([.ref (ad p0)] : List Value).toArray RX12 99 12 64 1 := ⟨RX12, TX12, 83, wsX12_entry, rfl, by decide, by decide, rfl, rfl, hts, hi12, hts (.fieldLink RX12 99 "HillArmsModel" "entrySize" "[I") (by decide +kernel)⟩
  have q359 : ha_Fk s ([.ref (ad p0)] : List Value).toArray RX12 359 12 67 0 := ⟨RX12, TX12, 83, wsX12_entry, rfl, by decide, by decide, rfl, rfl, hts, hi12, hts (.fieldLink RX12 359 "HillArmsModel" "entries" "I") (by decide +kernel)⟩
  have q96 : ha_Fk s ([.ref (ad p0)] : List Value).toArray RX12 96 12 63 1 := ⟨RX12, TX12, 83, wsX12_entry, rfl, by decide, by decide, rfl, rfl, hts, hi12, hts (.fieldLink RX12 96 "HillArmsModel" "entry" "[I") (by decide +kernel)⟩
  have q7 : ha_Fk s ([.ref (ad p0)] : List Value).toArray RX12 7 12 1 1 := ⟨RX12, TX12, 83, wsX12_entry, rfl, by decide, by decide, rfl, rfl, hts, hi12, hts (.fieldLink RX12 7 "HillArmsModel" "tape" "[I") (by decide +kernel)⟩
  have r359 : ha_Fp s ([.ref (ad p0)] : List Value).toArray RX12 359 12 67 0 .int := ⟨RX12, TX12, 83, wsX12_entry, tyX12, rfl, by decide, by decide, rfl, rfl, hts, hi12, hts (.fieldLink RX12 359 "HillArmsModel" "entries" "I") (by decide +kernel), tyX12_ok, nmX12, rfl, by decide +kernel⟩
  have r138 : ha_Fp s ([.ref (ad p0)] : List Value).toArray RX12 138 12 0 0 .int := ⟨RX12, TX12, 83, wsX12_entry, tyX12, rfl, by decide, by decide, rfl, rfl, hts, hi12, hts (.fieldLink RX12 138 "HillArmsModel" "thrown" "I") (by decide +kernel), tyX12_ok, nmX12, rfl, by decide +kernel⟩
  have cw0 := cwV (R := (headSpec wsX12_entry ({ frames := 2, cells := 0, slots := 0, locals := 45 } : Room)).room) 0 hts gX12_entry_X12_take (rm := ({ frames := 0, cells := 0, slots := 0, locals := 0 } : Room)) (mc := 0) (ms := 0) rfl rfl rfl (by decide +kernel) ⟨Nat.le_of_ble_eq_true rfl, Nat.le_of_ble_eq_true rfl⟩
  have cw1 := cwV (R := (headSpec wsX12_entry ({ frames := 2, cells := 0, slots := 0, locals := 45 } : Room)).room) 2 hts gX12_entry_X12_isTold (rm := ({ frames := 1, cells := 0, slots := 0, locals := 22 } : Room)) (mc := 0) (ms := 0) rfl rfl rfl (by decide +kernel) ⟨Nat.le_of_ble_eq_true rfl, Nat.le_of_ble_eq_true rfl⟩
  have hl := lv_entry ([.ref (ad p0)]) (n := 5) (Nat.le_of_ble_eq_true rfl)
  rw [lg_entry_eq]
  generalize (lg_sl ([.ref (ad p0)]) ++ List.replicate (5 - (lg_sl ([.ref (ad p0)])).length) Slot.unset).toArray = ls at hl ⊢
  have hl : lv_has ls 5 [(0, .ref (ad p0))] := hl
  refine (fun (K0 : ∀ (H : Heap) (locs : List Loc), va_P D vwCl (ha_wl cs ad mo_kd mo_ln N S) H → va_S (ha_A ad N) s.heap H locs → W p l e (headSpec wsX12_entry ({ frames := 2, cells := 0, slots := 0, locals := 45 } : Room)).room s m ([.ref (ad p0)] : List Value).toArray below meth c H locs 0 0 (MQ below (va_Qi (fun (r : Int32) (_ : Unit) => r = out.1) (fun _ => ha_H D cs ad mo_kd mo_ln N out.2) (ha_A ad N)) ([.ref (ad p0)] : List Value).toArray s 0 0 (ha_A ad N)) (F0 m 0 ls [])) => K0 _ _ hP hS) ?_
  intro H locs hP hS
  have hf := ha_rt hf
  have J149 : ∀ (v1 : Int32) (S : ha_St) (H : Heap) (locs : List Loc) (ls : Array Slot), (f_X12_entry_J149 p0 v1 S).bind some = some out → va_P D vwCl (ha_wl cs ad mo_kd mo_ln N S) H → va_D (ha_A ad N) (ha_wl cs ad mo_kd mo_ln N S) → va_S (ha_A ad N) s.heap H locs → lv_has ls 5 [(0, .ref (ad p0)), (1, .int v1)] → W p l e (headSpec wsX12_entry ({ frames := 2, cells := 0, slots := 0, locals := 45 } : Room)).room s m ([.ref (ad p0)] : List Value).toArray below meth c H locs 0 0 (MQ below (va_Qi (fun (r : Int32) (_ : Unit) => r = out.1) (fun _ => ha_H D cs ad mo_kd mo_ln N out.2) (ha_A ad N)) ([.ref (ad p0)] : List Value).toArray s 0 0 (ha_A ad N)) (F0 m 149 ls []) := by
    intro v1 S H locs ls hf  hP hD hS hl
    unfold f_X12_entry_J149 at hf
    refine lv_aload_n hx hb dX12_entry_149 rfl (lv_at hl 0 rfl) ?_
    obtain ⟨r1, wr1, hf⟩ := ha_bds hf
    obtain ⟨wr1, hr1⟩ := ha_rf_some wr1
    refine ha_getr hx hb hown hK hP q99 hN h0 wr1 dX12_entry_150 ?_
    refine lv_aload_n hx hb dX12_entry_153 rfl (lv_at hl 0 rfl) ?_
    refine ha_geti hx hb hown hK hP q359 hN h0 dX12_entry_154 ?_
    refine lv_iload_n hx hb dX12_entry_157 rfl (lv_at hl 1 rfl) ?_
    obtain ⟨g2, hf⟩ := ha_gds hf
    refine ha_iast hx hb hK hP hD hS hN hr1 g2 dX12_entry_158 (fun S3 H locs eS3 hP hD hS => ?_)
    have hf := ha_nms hf eS3
    refine lv_aload_n hx hb dX12_entry_159 rfl (lv_at hl 0 rfl) ?_
    refine lv_dup hx hb dX12_entry_160 rfl ?_
    refine ha_geti hx hb hown hK hP q359 hN h0 dX12_entry_161 ?_
    refine lv_iconst (v := 1) hx hb dX12_entry_164 (by decide) ?_
    refine lv_iadd hx hb dX12_entry_165 ?_
    refine ha_puti hx hb hown hK hP hD hS r359 hN h0 dX12_entry_166 (fun S4 H locs eS4 hP hD hS => ?_)
    have hf := ha_nms hf eS4
    refine lv_aload_n hx hb dX12_entry_169 rfl (lv_at hl 0 rfl) ?_
    refine ha_geti hx hb hown hK hP q359 hN h0 dX12_entry_170 ?_
    refine lv_iconst (v := 1) hx hb dX12_entry_173 (by decide) ?_
    refine lv_isub hx hb dX12_entry_174 ?_
    have he := Option.some.inj hf
    exact ha_reti hx hb hr hlocks hP hD hS dX12_entry_175 (ha_e1 he) (ha_e2 he)
  have J116 : ∀ (v1 : Int32) (S : ha_St) (H : Heap) (locs : List Loc) (ls : Array Slot), (f_X12_entry_J116 p0 v1 S).bind some = some out → va_P D vwCl (ha_wl cs ad mo_kd mo_ln N S) H → va_D (ha_A ad N) (ha_wl cs ad mo_kd mo_ln N S) → va_S (ha_A ad N) s.heap H locs → lv_has ls 5 [(0, .ref (ad p0)), (1, .int v1)] → W p l e (headSpec wsX12_entry ({ frames := 2, cells := 0, slots := 0, locals := 45 } : Room)).room s m ([.ref (ad p0)] : List Value).toArray below meth c H locs 0 0 (MQ below (va_Qi (fun (r : Int32) (_ : Unit) => r = out.1) (fun _ => ha_H D cs ad mo_kd mo_ln N out.2) (ha_A ad N)) ([.ref (ad p0)] : List Value).toArray s 0 0 (ha_A ad N)) (F0 m 116 ls []) := by
    intro v1 S H locs ls hf  hP hD hS hl
    unfold f_X12_entry_J116 at hf
    refine lv_iconst (v := 0) hx hb dX12_entry_116 (by decide) ?_
    refine lv_istore_n (lv' := [(2, .int 0), (0, .ref (ad p0)), (1, .int v1)]) hx hb dX12_entry_117 rfl hl (by decide) rfl (fun ls hl => ?_)
    have key12 : ∀ (K : (Int32 × ha_St) → Option (Int32 × ha_St)), (∀ (v1 : Int32) (S : ha_St) (H : Heap) (locs : List Loc) (ls : Array Slot), K (v1, S) = some out → va_P D vwCl (ha_wl cs ad mo_kd mo_ln N S) H → va_D (ha_A ad N) (ha_wl cs ad mo_kd mo_ln N S) → va_S (ha_A ad N) s.heap H locs → lv_has ls 5 [(0, .ref (ad p0)), (1, .int v1)] → W p l e (headSpec wsX12_entry ({ frames := 2, cells := 0, slots := 0, locals := 45 } : Room)).room s m ([.ref (ad p0)] : List Value).toArray below meth c H locs 0 0 (MQ below (va_Qi (fun (r : Int32) (_ : Unit) => r = out.1) (fun _ => ha_H D cs ad mo_kd mo_ln N out.2) (ha_A ad N)) ([.ref (ad p0)] : List Value).toArray s 0 0 (ha_A ad N)) (F0 m 149 ls [])) → ∀ (n : Nat) (v1 : Int32) (v2 : Int32) (S : ha_St) (H : Heap) (locs : List Loc) (ls : Array Slot), (f_X12_entry_L118i p0 n (v1, v2, S)).bind K = some out → va_P D vwCl (ha_wl cs ad mo_kd mo_ln N S) H → va_D (ha_A ad N) (ha_wl cs ad mo_kd mo_ln N S) → va_S (ha_A ad N) s.heap H locs → lv_has ls 5 [(0, .ref (ad p0)), (1, .int v1), (2, .int v2)] → W p l e (headSpec wsX12_entry ({ frames := 2, cells := 0, slots := 0, locals := 45 } : Room)).room s m ([.ref (ad p0)] : List Value).toArray below meth c H locs 0 0 (MQ below (va_Qi (fun (r : Int32) (_ : Unit) => r = out.1) (fun _ => ha_H D cs ad mo_kd mo_ln N out.2) (ha_A ad N)) ([.ref (ad p0)] : List Value).toArray s 0 0 (ha_A ad N)) (F0 m 118 ls []) := by
      intro K hk n
      induction n with
      | zero =>
        intro v1 v2 S H locs ls hf
        exact absurd (show (none : Option (Int32 × ha_St)) = some out from hf) (fun h => by cases h)
      | succ n ih =>
        intro v1 v2 S H locs ls hf  hP hD hS hl
        have hf : (f_X12_entry_L118 p0 (f_X12_entry_L118i p0 n) v1 v2 S).bind K = some out := hf
        unfold f_X12_entry_L118 at hf
        refine lv_iload_n hx hb dX12_entry_118 rfl (lv_at hl 2 rfl) ?_
        refine lv_iload_n hx hb dX12_entry_119 rfl (lv_at hl 1 rfl) ?_
        refine lv_icmp_ge (tgt := 149) hx hb dX12_entry_120 (by decide) (fun c5 => ?_) (fun c5 => ?_)
        · have hf := ha_it hf c5
          exact hk v1 S H locs ls hf  hP hD hS (lv_sub hl [0, 1] rfl)
        · have hf := ha_if hf c5
          refine lv_aload_n hx hb dX12_entry_123 rfl (lv_at hl 0 rfl) ?_
          obtain ⟨r6, wr6, hf⟩ := ha_bds hf
          obtain ⟨wr6, hr6⟩ := ha_rf_some wr6
          refine ha_getr hx hb hown hK hP q96 hN h0 wr6 dX12_entry_124 ?_
          refine lv_bipush (v := 12) hx hb dX12_entry_127 (by decide) ?_
          refine lv_aload_n hx hb dX12_entry_129 rfl (lv_at hl 0 rfl) ?_
          refine ha_geti hx hb hown hK hP q359 hN h0 dX12_entry_130 ?_
          refine lv_imul hx hb dX12_entry_133 ?_
          refine lv_iload_n hx hb dX12_entry_134 rfl (lv_at hl 2 rfl) ?_
          refine lv_iadd hx hb dX12_entry_135 ?_
          refine lv_aload_n hx hb dX12_entry_136 rfl (lv_at hl 0 rfl) ?_
          obtain ⟨r7, wr7, hf⟩ := ha_bds hf
          obtain ⟨wr7, hr7⟩ := ha_rf_some wr7
          refine ha_getr hx hb hown hK hP q7 hN h0 wr7 dX12_entry_137 ?_
          refine lv_iload_n hx hb dX12_entry_140 rfl (lv_at hl 2 rfl) ?_
          obtain ⟨g8, hf⟩ := ha_gds hf
          refine ha_iald hx hb hK hP hN hr7 g8 dX12_entry_141 ?_
          obtain ⟨g9, hf⟩ := ha_gds hf
          refine ha_iast hx hb hK hP hD hS hN hr6 g9 dX12_entry_142 (fun S10 H locs eS10 hP hD hS => ?_)
          have hf := ha_nms hf eS10
          obtain ⟨x11, ex11⟩ : ∃ y : Int32, y = (v2 : Int32) + 1 := ⟨_, rfl⟩
          have hf := ha_nms hf ex11
          refine lv_iinc (v := x11) (lv' := [(2, .int x11), (0, .ref (ad p0)), (1, .int v1)]) hx hb dX12_entry_143 hl (k := 2) rfl (by rw [ex11]; rfl) (by decide) rfl (fun ls hl => ?_)
          refine lv_goto (tgt := 118) hx hb dX12_entry_146 (by decide) ?_
          exact ih v1 x11 S10 H locs ls hf  hP hD hS (lv_sub hl [1, 2, 0] rfl)
    refine key12 _ (fun v1 S H locs ls hf  hP hD hS hl => ?_) ha_fu v1 0 S H locs ls (ha_as hf)  hP hD hS (lv_sub hl [1, 2, 0] rfl)
    have hf : (f_X12_entry_J149 p0 v1 S).bind some = some out := hf
    exact J149 v1 S H locs ls hf  hP hD hS (lv_sub hl [0, 1] rfl)
  have J29 : ∀  (S : ha_St) (H : Heap) (locs : List Loc) (ls : Array Slot), (f_X12_entry_J29 p0  S).bind some = some out → va_P D vwCl (ha_wl cs ad mo_kd mo_ln N S) H → va_D (ha_A ad N) (ha_wl cs ad mo_kd mo_ln N S) → va_S (ha_A ad N) s.heap H locs → lv_has ls 5 [(0, .ref (ad p0))] → W p l e (headSpec wsX12_entry ({ frames := 2, cells := 0, slots := 0, locals := 45 } : Room)).room s m ([.ref (ad p0)] : List Value).toArray below meth c H locs 0 0 (MQ below (va_Qi (fun (r : Int32) (_ : Unit) => r = out.1) (fun _ => ha_H D cs ad mo_kd mo_ln N out.2) (ha_A ad N)) ([.ref (ad p0)] : List Value).toArray s 0 0 (ha_A ad N)) (F0 m 29 ls []) := by
    intro  S H locs ls hf  hP hD hS hl
    unfold f_X12_entry_J29 at hf
    refine lv_iconst (v := (-1)) hx hb dX12_entry_29 (by decide) ?_
    have he := Option.some.inj hf
    exact ha_reti hx hb hr hlocks hP hD hS dX12_entry_30 (ha_e1 he) (ha_e2 he)
  unfold f_X12_entry at hf
  refine lv_aload_n hx hb dX12_entry_0 rfl (lv_at hl 0 rfl) ?_
  refine lv_iconst (v := 0) hx hb dX12_entry_1 (by decide) ?_
  refine ha_puti hx hb hown hK hP hD hS r138 hN h0 dX12_entry_2 (fun S14 H locs eS14 hP hD hS => ?_)
  have hf := ha_nms hf eS14
  refine lv_aload_n hx hb dX12_entry_5 rfl (lv_at hl 0 rfl) ?_
  obtain ⟨z15, wz15, hf⟩ := ha_bds hf
  refine ha_callVi (As := []) (rest := []) hZ ⟨hx, hb, hml, hown, hts⟩ hK hz hP hD hS (c_X12_take hZ hN h0 wz15) cw0 hN h0 (by decide) rfl rfl hl.1 rfl (Nat.le_of_ble_eq_true rfl) dX12_entry_6 ⟨Nat.le_of_ble_eq_true rfl, Nat.le_of_ble_eq_true rfl⟩ (fun H locs hP hD hS => ?_)
  refine lv_istore_n (lv' := [(1, .int z15.1), (0, .ref (ad p0))]) hx hb dX12_entry_9 rfl hl (by decide) rfl (fun ls hl => ?_)
  refine lv_aload_n hx hb dX12_entry_10 rfl (lv_at hl 1 rfl) ?_
  refine ha_geti hx hb hown hK hP q359 hN h0 dX12_entry_11 ?_
  refine lv_bipush (v := 12) hx hb dX12_entry_14 (by decide) ?_
  refine lv_icmp_eq (tgt := 29) hx hb dX12_entry_16 (by decide) (fun c16 => ?_) (fun c16 => ?_)
  · have hf := ha_it hf c16
    exact J29  z15.2 H locs ls hf  hP hD hS (lv_sub hl [1] rfl)
  · have hf := ha_if hf c16
    refine lv_aload_n hx hb dX12_entry_19 rfl (lv_at hl 1 rfl) ?_
    refine lv_iload_n hx hb dX12_entry_20 rfl (lv_at hl 0 rfl) ?_
    refine lv_bipush (v := 12) hx hb dX12_entry_21 (by decide) ?_
    obtain ⟨z17, wz17, hf⟩ := ha_bds hf
    refine ha_callVi (As := [.int z15.1, .int 12]) (rest := []) hZ ⟨hx, hb, hml, hown, hts⟩ hK hz hP hD hS (c_X12_isTold hZ hN h0 wz17) cw1 hN h0 (by decide) rfl rfl hl.1 rfl (Nat.le_of_ble_eq_true rfl) dX12_entry_23 ⟨Nat.le_of_ble_eq_true rfl, Nat.le_of_ble_eq_true rfl⟩ (fun H locs hP hD hS => ?_)
    refine lv_if_ne (tgt := 31) hx hb dX12_entry_26 (by decide) (fun c18 => ?_) (fun c18 => ?_)
    · have hf := ha_it hf c18
      refine lv_iconst (v := 0) hx hb dX12_entry_31 (by decide) ?_
      refine lv_istore_n (lv' := [(2, .int 0), (1, .int z15.1), (0, .ref (ad p0))]) hx hb dX12_entry_32 rfl hl (by decide) rfl (fun ls hl => ?_)
      have key35 : ∀ (K : ((Int32 × ha_St) ⊕ (Int32 × ha_St)) → Option (Int32 × ha_St)), (∀ (v1 : Int32) (S : ha_St) (H : Heap) (locs : List Loc) (ls : Array Slot), K (.inl (v1, S)) = some out → va_P D vwCl (ha_wl cs ad mo_kd mo_ln N S) H → va_D (ha_A ad N) (ha_wl cs ad mo_kd mo_ln N S) → va_S (ha_A ad N) s.heap H locs → lv_has ls 5 [(0, .ref (ad p0)), (1, .int v1)] → W p l e (headSpec wsX12_entry ({ frames := 2, cells := 0, slots := 0, locals := 45 } : Room)).room s m ([.ref (ad p0)] : List Value).toArray below meth c H locs 0 0 (MQ below (va_Qi (fun (r : Int32) (_ : Unit) => r = out.1) (fun _ => ha_H D cs ad mo_kd mo_ln N out.2) (ha_A ad N)) ([.ref (ad p0)] : List Value).toArray s 0 0 (ha_A ad N)) (F0 m 116 ls [])) → (∀ r, K (.inr r) = some out → r = out) → ∀ (n : Nat) (v1 : Int32) (v2 : Int32) (S : ha_St) (H : Heap) (locs : List Loc) (ls : Array Slot), (f_X12_entry_L33i p0 n (v1, v2, S)).bind K = some out → va_P D vwCl (ha_wl cs ad mo_kd mo_ln N S) H → va_D (ha_A ad N) (ha_wl cs ad mo_kd mo_ln N S) → va_S (ha_A ad N) s.heap H locs → lv_has ls 5 [(0, .ref (ad p0)), (1, .int v1), (2, .int v2)] → W p l e (headSpec wsX12_entry ({ frames := 2, cells := 0, slots := 0, locals := 45 } : Room)).room s m ([.ref (ad p0)] : List Value).toArray below meth c H locs 0 0 (MQ below (va_Qi (fun (r : Int32) (_ : Unit) => r = out.1) (fun _ => ha_H D cs ad mo_kd mo_ln N out.2) (ha_A ad N)) ([.ref (ad p0)] : List Value).toArray s 0 0 (ha_A ad N)) (F0 m 33 ls []) := by
        intro K hk hke n
        induction n with
        | zero =>
          intro v1 v2 S H locs ls hf
          exact absurd (show (none : Option (Int32 × ha_St)) = some out from hf) (fun h => by cases h)
        | succ n ih =>
          intro v1 v2 S H locs ls hf  hP hD hS hl
          have J104 : ∀ (v1 : Int32) (v2 : Int32) (v3 : Int32) (S : ha_St) (H : Heap) (locs : List Loc) (ls : Array Slot), (f_X12_entry_L33_J104 p0 (f_X12_entry_L33i p0 n) v1 v2 v3 S).bind K = some out → va_P D vwCl (ha_wl cs ad mo_kd mo_ln N S) H → va_D (ha_A ad N) (ha_wl cs ad mo_kd mo_ln N S) → va_S (ha_A ad N) s.heap H locs → lv_has ls 5 [(0, .ref (ad p0)), (1, .int v1), (2, .int v2), (3, .int v3)] → W p l e (headSpec wsX12_entry ({ frames := 2, cells := 0, slots := 0, locals := 45 } : Room)).room s m ([.ref (ad p0)] : List Value).toArray below meth c H locs 0 0 (MQ below (va_Qi (fun (r : Int32) (_ : Unit) => r = out.1) (fun _ => ha_H D cs ad mo_kd mo_ln N out.2) (ha_A ad N)) ([.ref (ad p0)] : List Value).toArray s 0 0 (ha_A ad N)) (F0 m 104 ls []) := by
            intro v1 v2 v3 S H locs ls hf  hP hD hS hl
            unfold f_X12_entry_L33_J104 at hf
            refine lv_iload_n hx hb dX12_entry_104 rfl (lv_at hl 3 rfl) ?_
            refine lv_if_eq (tgt := 110) hx hb dX12_entry_105 (by decide) (fun c19 => ?_) (fun c19 => ?_)
            · have hf := ha_it hf c19
              obtain ⟨x20, ex20⟩ : ∃ y : Int32, y = (v2 : Int32) + 1 := ⟨_, rfl⟩
              have hf := ha_nms hf ex20
              refine lv_iinc (v := x20) (lv' := [(2, .int x20), (0, .ref (ad p0)), (1, .int v1), (3, .int v3)]) hx hb dX12_entry_110 hl (k := 2) rfl (by rw [ex20]; rfl) (by decide) rfl (fun ls hl => ?_)
              refine lv_goto (tgt := 33) hx hb dX12_entry_113 (by decide) ?_
              exact ih v1 x20 S H locs ls hf  hP hD hS (lv_sub hl [1, 2, 0] rfl)
            · have hf := ha_if hf c19
              refine lv_iconst (v := (-1)) hx hb dX12_entry_108 (by decide) ?_
              have he := hke _ hf
              exact ha_reti hx hb hr hlocks hP hD hS dX12_entry_109 (ha_e1 he) (ha_e2 he)
          have J56 : ∀ (v1 : Int32) (v2 : Int32) (k0 : Int32) (S : ha_St) (H : Heap) (locs : List Loc) (ls : Array Slot), (f_X12_entry_L33_J56 p0 (f_X12_entry_L33i p0 n) v1 v2 k0 S).bind K = some out → va_P D vwCl (ha_wl cs ad mo_kd mo_ln N S) H → va_D (ha_A ad N) (ha_wl cs ad mo_kd mo_ln N S) → va_S (ha_A ad N) s.heap H locs → lv_has ls 5 [(0, .ref (ad p0)), (1, .int v1), (2, .int v2)] → W p l e (headSpec wsX12_entry ({ frames := 2, cells := 0, slots := 0, locals := 45 } : Room)).room s m ([.ref (ad p0)] : List Value).toArray below meth c H locs 0 0 (MQ below (va_Qi (fun (r : Int32) (_ : Unit) => r = out.1) (fun _ => ha_H D cs ad mo_kd mo_ln N out.2) (ha_A ad N)) ([.ref (ad p0)] : List Value).toArray s 0 0 (ha_A ad N)) (F0 m 56 ls [.int k0]) := by
            intro v1 v2 k0 S H locs ls hf  hP hD hS hl
            unfold f_X12_entry_L33_J56 at hf
            refine lv_istore_n (lv' := [(3, .int k0), (0, .ref (ad p0)), (1, .int v1), (2, .int v2)]) hx hb dX12_entry_56 rfl hl (by decide) rfl (fun ls hl => ?_)
            refine lv_iconst (v := 0) hx hb dX12_entry_57 (by decide) ?_
            refine lv_istore (lv' := [(4, .int 0), (3, .int k0), (0, .ref (ad p0)), (1, .int v1), (2, .int v2)]) hx hb dX12_entry_58 hl (by decide) rfl (fun ls hl => ?_)
            have key29 : ∀ (K : (Int32 × Int32 × Int32 × ha_St) → Option (Int32 × ha_St)), (∀ (v1 : Int32) (v2 : Int32) (v3 : Int32) (S : ha_St) (H : Heap) (locs : List Loc) (ls : Array Slot), K (v1, v2, v3, S) = some out → va_P D vwCl (ha_wl cs ad mo_kd mo_ln N S) H → va_D (ha_A ad N) (ha_wl cs ad mo_kd mo_ln N S) → va_S (ha_A ad N) s.heap H locs → lv_has ls 5 [(0, .ref (ad p0)), (1, .int v1), (2, .int v2), (3, .int v3)] → W p l e (headSpec wsX12_entry ({ frames := 2, cells := 0, slots := 0, locals := 45 } : Room)).room s m ([.ref (ad p0)] : List Value).toArray below meth c H locs 0 0 (MQ below (va_Qi (fun (r : Int32) (_ : Unit) => r = out.1) (fun _ => ha_H D cs ad mo_kd mo_ln N out.2) (ha_A ad N)) ([.ref (ad p0)] : List Value).toArray s 0 0 (ha_A ad N)) (F0 m 104 ls [])) → ∀ (n : Nat) (v1 : Int32) (v2 : Int32) (v3 : Int32) (v4 : Int32) (S : ha_St) (H : Heap) (locs : List Loc) (ls : Array Slot), (f_X12_entry_L60i p0 n (v1, v2, v3, v4, S)).bind K = some out → va_P D vwCl (ha_wl cs ad mo_kd mo_ln N S) H → va_D (ha_A ad N) (ha_wl cs ad mo_kd mo_ln N S) → va_S (ha_A ad N) s.heap H locs → lv_has ls 5 [(0, .ref (ad p0)), (1, .int v1), (2, .int v2), (3, .int v3), (4, .int v4)] → W p l e (headSpec wsX12_entry ({ frames := 2, cells := 0, slots := 0, locals := 45 } : Room)).room s m ([.ref (ad p0)] : List Value).toArray below meth c H locs 0 0 (MQ below (va_Qi (fun (r : Int32) (_ : Unit) => r = out.1) (fun _ => ha_H D cs ad mo_kd mo_ln N out.2) (ha_A ad N)) ([.ref (ad p0)] : List Value).toArray s 0 0 (ha_A ad N)) (F0 m 60 ls []) := by
              intro K hk n
              induction n with
              | zero =>
                intro v1 v2 v3 v4 S H locs ls hf
                exact absurd (show (none : Option (Int32 × ha_St)) = some out from hf) (fun h => by cases h)
              | succ n ih =>
                intro v1 v2 v3 v4 S H locs ls hf  hP hD hS hl
                have J97 : ∀ (v1 : Int32) (v2 : Int32) (v4 : Int32) (k0 : Int32) (S : ha_St) (H : Heap) (locs : List Loc) (ls : Array Slot), (f_X12_entry_L60_J97 p0 (f_X12_entry_L60i p0 n) v1 v2 v4 k0 S).bind K = some out → va_P D vwCl (ha_wl cs ad mo_kd mo_ln N S) H → va_D (ha_A ad N) (ha_wl cs ad mo_kd mo_ln N S) → va_S (ha_A ad N) s.heap H locs → lv_has ls 5 [(0, .ref (ad p0)), (1, .int v1), (2, .int v2), (4, .int v4)] → W p l e (headSpec wsX12_entry ({ frames := 2, cells := 0, slots := 0, locals := 45 } : Room)).room s m ([.ref (ad p0)] : List Value).toArray below meth c H locs 0 0 (MQ below (va_Qi (fun (r : Int32) (_ : Unit) => r = out.1) (fun _ => ha_H D cs ad mo_kd mo_ln N out.2) (ha_A ad N)) ([.ref (ad p0)] : List Value).toArray s 0 0 (ha_A ad N)) (F0 m 97 ls [.int k0]) := by
                  intro v1 v2 v4 k0 S H locs ls hf  hP hD hS hl
                  unfold f_X12_entry_L60_J97 at hf
                  refine lv_istore_n (lv' := [(3, .int k0), (0, .ref (ad p0)), (1, .int v1), (2, .int v2), (4, .int v4)]) hx hb dX12_entry_97 rfl hl (by decide) rfl (fun ls hl => ?_)
                  obtain ⟨x21, ex21⟩ : ∃ y : Int32, y = (v4 : Int32) + 1 := ⟨_, rfl⟩
                  have hf := ha_nms hf ex21
                  refine lv_iinc (v := x21) (lv' := [(4, .int x21), (3, .int k0), (0, .ref (ad p0)), (1, .int v1), (2, .int v2)]) hx hb dX12_entry_98 hl (k := 4) rfl (by rw [ex21]; rfl) (by decide) rfl (fun ls hl => ?_)
                  refine lv_goto (tgt := 60) hx hb dX12_entry_101 (by decide) ?_
                  exact ih v1 v2 k0 x21 S H locs ls hf  hP hD hS (lv_sub hl [2, 3, 4, 1, 0] rfl)
                have hf : (f_X12_entry_L60 p0 (f_X12_entry_L60i p0 n) v1 v2 v3 v4 S).bind K = some out := hf
                unfold f_X12_entry_L60 at hf
                refine lv_iload hx hb dX12_entry_60 (lv_at hl 4 rfl) ?_
                refine lv_iload_n hx hb dX12_entry_62 rfl (lv_at hl 1 rfl) ?_
                refine lv_icmp_ge (tgt := 104) hx hb dX12_entry_63 (by decide) (fun c22 => ?_) (fun c22 => ?_)
                · have hf := ha_it hf c22
                  exact hk v1 v2 v3 S H locs ls hf  hP hD hS (lv_sub hl [0, 1, 2, 3] rfl)
                · have hf := ha_if hf c22
                  refine lv_iload_n hx hb dX12_entry_66 rfl (lv_at hl 3 rfl) ?_
                  refine lv_if_eq (tgt := 104) hx hb dX12_entry_67 (by decide) (fun c23 => ?_) (fun c23 => ?_)
                  · have hf := ha_it hf c23
                    exact hk v1 v2 v3 S H locs ls hf  hP hD hS (lv_sub hl [0, 1, 2, 3] rfl)
                  · have hf := ha_if hf c23
                    refine lv_aload_n hx hb dX12_entry_70 rfl (lv_at hl 0 rfl) ?_
                    obtain ⟨r24, wr24, hf⟩ := ha_bds hf
                    obtain ⟨wr24, hr24⟩ := ha_rf_some wr24
                    refine ha_getr hx hb hown hK hP q96 hN h0 wr24 dX12_entry_71 ?_
                    refine lv_bipush (v := 12) hx hb dX12_entry_74 (by decide) ?_
                    refine lv_iload_n hx hb dX12_entry_76 rfl (lv_at hl 2 rfl) ?_
                    refine lv_imul hx hb dX12_entry_77 ?_
                    refine lv_iload hx hb dX12_entry_78 (lv_at hl 4 rfl) ?_
                    refine lv_iadd hx hb dX12_entry_80 ?_
                    obtain ⟨g25, hf⟩ := ha_gds hf
                    refine ha_iald hx hb hK hP hN hr24 g25 dX12_entry_81 ?_
                    refine lv_aload_n hx hb dX12_entry_82 rfl (lv_at hl 0 rfl) ?_
                    obtain ⟨r26, wr26, hf⟩ := ha_bds hf
                    obtain ⟨wr26, hr26⟩ := ha_rf_some wr26
                    refine ha_getr hx hb hown hK hP q7 hN h0 wr26 dX12_entry_83 ?_
                    refine lv_iload hx hb dX12_entry_86 (lv_at hl 4 rfl) ?_
                    obtain ⟨g27, hf⟩ := ha_gds hf
                    refine ha_iald hx hb hK hP hN hr26 g27 dX12_entry_88 ?_
                    refine lv_icmp_ne (tgt := 96) hx hb dX12_entry_89 (by decide) (fun c28 => ?_) (fun c28 => ?_)
                    · have hf := ha_it hf c28
                      refine lv_iconst (v := 0) hx hb dX12_entry_96 (by decide) ?_
                      exact J97 v1 v2 v4 0 S H locs ls hf  hP hD hS (lv_sub hl [0, 1, 2, 4] rfl)
                    · have hf := ha_if hf (fun q => q c28)
                      refine lv_iconst (v := 1) hx hb dX12_entry_92 (by decide) ?_
                      refine lv_goto (tgt := 97) hx hb dX12_entry_93 (by decide) ?_
                      exact J97 v1 v2 v4 1 S H locs ls hf  hP hD hS (lv_sub hl [0, 1, 2, 4] rfl)
            refine key29 _ (fun v1 v2 v3 S H locs ls hf  hP hD hS hl => ?_) ha_fu v1 v2 k0 0 S H locs ls (ha_as hf)  hP hD hS (lv_sub hl [2, 3, 4, 1, 0] rfl)
            have hf : (f_X12_entry_L33_J104 p0 (f_X12_entry_L33i p0 n) v1 v2 v3 S).bind K = some out := hf
            exact J104 v1 v2 v3 S H locs ls hf  hP hD hS (lv_sub hl [0, 1, 2, 3] rfl)
          have hf : (f_X12_entry_L33 p0 (f_X12_entry_L33i p0 n) v1 v2 S).bind K = some out := hf
          unfold f_X12_entry_L33 at hf
          refine lv_iload_n hx hb dX12_entry_33 rfl (lv_at hl 2 rfl) ?_
          refine lv_aload_n hx hb dX12_entry_34 rfl (lv_at hl 0 rfl) ?_
          refine ha_geti hx hb hown hK hP q359 hN h0 dX12_entry_35 ?_
          refine lv_icmp_ge (tgt := 116) hx hb dX12_entry_38 (by decide) (fun c31 => ?_) (fun c31 => ?_)
          · have hf := ha_it hf c31
            exact hk v1 S H locs ls hf  hP hD hS (lv_sub hl [0, 1] rfl)
          · have hf := ha_if hf c31
            refine lv_aload_n hx hb dX12_entry_41 rfl (lv_at hl 0 rfl) ?_
            obtain ⟨r32, wr32, hf⟩ := ha_bds hf
            obtain ⟨wr32, hr32⟩ := ha_rf_some wr32
            refine ha_getr hx hb hown hK hP q99 hN h0 wr32 dX12_entry_42 ?_
            refine lv_iload_n hx hb dX12_entry_45 rfl (lv_at hl 2 rfl) ?_
            obtain ⟨g33, hf⟩ := ha_gds hf
            refine ha_iald hx hb hK hP hN hr32 g33 dX12_entry_46 ?_
            refine lv_iload_n hx hb dX12_entry_47 rfl (lv_at hl 1 rfl) ?_
            refine lv_icmp_ne (tgt := 55) hx hb dX12_entry_48 (by decide) (fun c34 => ?_) (fun c34 => ?_)
            · have hf := ha_it hf c34
              refine lv_iconst (v := 0) hx hb dX12_entry_55 (by decide) ?_
              exact J56 v1 v2 0 S H locs ls hf  hP hD hS (lv_sub hl [0, 1, 2] rfl)
            · have hf := ha_if hf (fun q => q c34)
              refine lv_iconst (v := 1) hx hb dX12_entry_51 (by decide) ?_
              refine lv_goto (tgt := 56) hx hb dX12_entry_52 (by decide) ?_
              exact J56 v1 v2 1 S H locs ls hf  hP hD hS (lv_sub hl [0, 1, 2] rfl)
      refine key35 _ (fun v1 S H locs ls hf  hP hD hS hl => ?_) (fun r h => Option.some.inj h) ha_fu z15.1 0 z17.2 H locs ls (ha_as hf)  hP hD hS (lv_sub hl [2, 1, 0] rfl)
      have hf : (f_X12_entry_J116 p0 v1 S).bind some = some out := hf
      exact J116 v1 S H locs ls hf  hP hD hS (lv_sub hl [0, 1] rfl)
    · have hf := ha_if hf (fun q => q c18)
      exact J29  z17.2 H locs ls hf  hP hD hS (lv_sub hl [1] rfl)

set_option maxHeartbeats 4000000 in
set_option maxRecDepth 100000 in
theorem c_X12_begins {l : Launch} {D : va_G} {cs : Nat → ClassId} {ad : Nat → Nat} {N : List Nat} {Z : State → Prop} (hZ : ha_Zok (ha_A ad N) Z) (hN : ∀ x, mo_kd x < 999 → x ∈ N) {p0 : Nat} {p1 : Int32} {p2 : Int32} {S : ha_St} {out : Int32 × ha_St} (h0 : mo_kd p0 = 12) (hf : f_X12_begins p0 p1 p2 S = some out) : ha_Ci l D cs ad mo_kd mo_ln N Z yX12_begins wsX12_begins ({ frames := 0, cells := 0, slots := 0, locals := 0 } : Room) [.ref (ad p0), .int p1, .int p2] S out.1 out.2 := by
  refine Met.ofW (cc := cX12_begins) (maxL := 5) (ret := (some .boolean)) (by decide +kernel) rfl ?_
  intro p e s m args below meth c s₁ B hml hv
  obtain ⟨rfl, hP, hD, hK, hz⟩ := hv
  have hx := B.exec
  have hb := B.bytes
  have hr := B.returns
  have hts := atoms_spec (ws := wsX12_begins) B.pre
  have hown : s.vm.findClass RX12 = some m.cls := findClass_of_methodNamed B.named
  have hlocks := B.notSynchronized
  have hS : va_S (ha_A ad N) s.heap s.heap [] := va_S.rf
  have hi12 : ∀ w ∈ wsX120, w ∈ wsX12_begins := fun w h => List.mem_cons_of_mem _ (List.mem_append_right _ h)
  have q108 : ha_Fk s ([.ref (ad p0), .int p1, .int p2] : List Value).toArray RX12 108 12 69 1 := ⟨RX12, TX12, 83, wsX12_begins, rfl, by decide, by decide, rfl, rfl, hts, hi12, hts (.fieldLink RX12 108 "HillArmsModel" "at" "[I") (by decide +kernel)⟩
  have q96 : ha_Fk s ([.ref (ad p0), .int p1, .int p2] : List Value).toArray RX12 96 12 63 1 := ⟨RX12, TX12, 83, wsX12_begins, rfl, by decide, by decide, rfl, rfl, hts, hi12, hts (.fieldLink RX12 96 "HillArmsModel" "entry" "[I") (by decide +kernel)⟩
  have q365 : ha_Fk s ([.ref (ad p0), .int p1, .int p2] : List Value).toArray RX12 365 12 72 0 := ⟨RX12, TX12, 83, wsX12_begins, rfl, by decide, by decide, rfl, rfl, hts, hi12, hts (.fieldLink RX12 365 "HillArmsModel" "atSize" "I") (by decide +kernel)⟩
  have q99 : ha_Fk s ([.ref (ad p0), .int p1, .int p2] : List Value).toArray RX12 99 12 64 1 := ⟨RX12, TX12, 83, wsX12_begins, rfl, by decide, by decide, rfl, rfl, hts, hi12, hts (.fieldLink RX12 99 "HillArmsModel" "entrySize" "[I") (by decide +kernel)⟩
  have hl := lv_entry ([.ref (ad p0), .int p1, .int p2]) (n := 5) (Nat.le_of_ble_eq_true rfl)
  rw [lg_entry_eq]
  generalize (lg_sl ([.ref (ad p0), .int p1, .int p2]) ++ List.replicate (5 - (lg_sl ([.ref (ad p0), .int p1, .int p2])).length) Slot.unset).toArray = ls at hl ⊢
  have hl : lv_has ls 5 [(0, .ref (ad p0)), (1, .int p1), (2, .int p2)] := hl
  refine (fun (K0 : ∀ (H : Heap) (locs : List Loc), va_P D vwCl (ha_wl cs ad mo_kd mo_ln N S) H → va_S (ha_A ad N) s.heap H locs → W p l e (headSpec wsX12_begins ({ frames := 0, cells := 0, slots := 0, locals := 0 } : Room)).room s m ([.ref (ad p0), .int p1, .int p2] : List Value).toArray below meth c H locs 0 0 (MQ below (va_Qi (fun (r : Int32) (_ : Unit) => r = out.1) (fun _ => ha_H D cs ad mo_kd mo_ln N out.2) (ha_A ad N)) ([.ref (ad p0), .int p1, .int p2] : List Value).toArray s 0 0 (ha_A ad N)) (F0 m 0 ls [])) => K0 _ _ hP hS) ?_
  intro H locs hP hS
  have hf := ha_rt hf
  have J100 : ∀  (S : ha_St) (H : Heap) (locs : List Loc) (ls : Array Slot), (f_X12_begins_J100 p0 p1 p2  S).bind some = some out → va_P D vwCl (ha_wl cs ad mo_kd mo_ln N S) H → va_D (ha_A ad N) (ha_wl cs ad mo_kd mo_ln N S) → va_S (ha_A ad N) s.heap H locs → lv_has ls 5 [(0, .ref (ad p0)), (1, .int p1), (2, .int p2)] → W p l e (headSpec wsX12_begins ({ frames := 0, cells := 0, slots := 0, locals := 0 } : Room)).room s m ([.ref (ad p0), .int p1, .int p2] : List Value).toArray below meth c H locs 0 0 (MQ below (va_Qi (fun (r : Int32) (_ : Unit) => r = out.1) (fun _ => ha_H D cs ad mo_kd mo_ln N out.2) (ha_A ad N)) ([.ref (ad p0), .int p1, .int p2] : List Value).toArray s 0 0 (ha_A ad N)) (F0 m 100 ls []) := by
    intro  S H locs ls hf  hP hD hS hl
    unfold f_X12_begins_J100 at hf
    refine lv_iconst (v := 1) hx hb dX12_begins_100 (by decide) ?_
    have he := Option.some.inj hf
    exact ha_retz hx hb hr hlocks hP hD hS dX12_begins_101 (by decide) (ha_e1 he) (ha_e2 he)
  have J59 : ∀ (v3 : Int32) (S : ha_St) (H : Heap) (locs : List Loc) (ls : Array Slot), (f_X12_begins_J59 p0 p1 p2 v3 S).bind some = some out → va_P D vwCl (ha_wl cs ad mo_kd mo_ln N S) H → va_D (ha_A ad N) (ha_wl cs ad mo_kd mo_ln N S) → va_S (ha_A ad N) s.heap H locs → lv_has ls 5 [(0, .ref (ad p0)), (1, .int p1), (2, .int p2), (3, .int v3)] → W p l e (headSpec wsX12_begins ({ frames := 0, cells := 0, slots := 0, locals := 0 } : Room)).room s m ([.ref (ad p0), .int p1, .int p2] : List Value).toArray below meth c H locs 0 0 (MQ below (va_Qi (fun (r : Int32) (_ : Unit) => r = out.1) (fun _ => ha_H D cs ad mo_kd mo_ln N out.2) (ha_A ad N)) ([.ref (ad p0), .int p1, .int p2] : List Value).toArray s 0 0 (ha_A ad N)) (F0 m 59 ls []) := by
    intro v3 S H locs ls hf  hP hD hS hl
    unfold f_X12_begins_J59 at hf
    refine lv_iconst (v := 0) hx hb dX12_begins_59 (by decide) ?_
    refine lv_istore (lv' := [(4, .int 0), (0, .ref (ad p0)), (1, .int p1), (2, .int p2), (3, .int v3)]) hx hb dX12_begins_60 hl (by decide) rfl (fun ls hl => ?_)
    have key8 : ∀ (K : ((ha_St) ⊕ (Int32 × ha_St)) → Option (Int32 × ha_St)), (∀  (S : ha_St) (H : Heap) (locs : List Loc) (ls : Array Slot), K (.inl S) = some out → va_P D vwCl (ha_wl cs ad mo_kd mo_ln N S) H → va_D (ha_A ad N) (ha_wl cs ad mo_kd mo_ln N S) → va_S (ha_A ad N) s.heap H locs → lv_has ls 5 [(0, .ref (ad p0)), (1, .int p1), (2, .int p2)] → W p l e (headSpec wsX12_begins ({ frames := 0, cells := 0, slots := 0, locals := 0 } : Room)).room s m ([.ref (ad p0), .int p1, .int p2] : List Value).toArray below meth c H locs 0 0 (MQ below (va_Qi (fun (r : Int32) (_ : Unit) => r = out.1) (fun _ => ha_H D cs ad mo_kd mo_ln N out.2) (ha_A ad N)) ([.ref (ad p0), .int p1, .int p2] : List Value).toArray s 0 0 (ha_A ad N)) (F0 m 100 ls [])) → (∀ r, K (.inr r) = some out → r = out) → ∀ (n : Nat) (v3 : Int32) (v4 : Int32) (S : ha_St) (H : Heap) (locs : List Loc) (ls : Array Slot), (f_X12_begins_L62i p0 p1 p2 n (v3, v4, S)).bind K = some out → va_P D vwCl (ha_wl cs ad mo_kd mo_ln N S) H → va_D (ha_A ad N) (ha_wl cs ad mo_kd mo_ln N S) → va_S (ha_A ad N) s.heap H locs → lv_has ls 5 [(0, .ref (ad p0)), (1, .int p1), (2, .int p2), (3, .int v3), (4, .int v4)] → W p l e (headSpec wsX12_begins ({ frames := 0, cells := 0, slots := 0, locals := 0 } : Room)).room s m ([.ref (ad p0), .int p1, .int p2] : List Value).toArray below meth c H locs 0 0 (MQ below (va_Qi (fun (r : Int32) (_ : Unit) => r = out.1) (fun _ => ha_H D cs ad mo_kd mo_ln N out.2) (ha_A ad N)) ([.ref (ad p0), .int p1, .int p2] : List Value).toArray s 0 0 (ha_A ad N)) (F0 m 62 ls []) := by
      intro K hk hke n
      induction n with
      | zero =>
        intro v3 v4 S H locs ls hf
        exact absurd (show (none : Option (Int32 × ha_St)) = some out from hf) (fun h => by cases h)
      | succ n ih =>
        intro v3 v4 S H locs ls hf  hP hD hS hl
        have hf : (f_X12_begins_L62 p0 p1 p2 (f_X12_begins_L62i p0 p1 p2 n) v3 v4 S).bind K = some out := hf
        unfold f_X12_begins_L62 at hf
        refine lv_iload hx hb dX12_begins_62 (lv_at hl 4 rfl) ?_
        refine lv_iload_n hx hb dX12_begins_64 rfl (lv_at hl 3 rfl) ?_
        refine lv_icmp_ge (tgt := 100) hx hb dX12_begins_65 (by decide) (fun c1 => ?_) (fun c1 => ?_)
        · have hf := ha_it hf c1
          exact hk  S H locs ls hf  hP hD hS (lv_sub hl [0, 1, 2] rfl)
        · have hf := ha_if hf c1
          refine lv_aload_n hx hb dX12_begins_68 rfl (lv_at hl 0 rfl) ?_
          obtain ⟨r2, wr2, hf⟩ := ha_bds hf
          obtain ⟨wr2, hr2⟩ := ha_rf_some wr2
          refine ha_getr hx hb hown hK hP q108 hN h0 wr2 dX12_begins_69 ?_
          refine lv_iload_n hx hb dX12_begins_72 rfl (lv_at hl 2 rfl) ?_
          refine lv_iload hx hb dX12_begins_73 (lv_at hl 4 rfl) ?_
          refine lv_iadd hx hb dX12_begins_75 ?_
          obtain ⟨g3, hf⟩ := ha_gds hf
          refine ha_iald hx hb hK hP hN hr2 g3 dX12_begins_76 ?_
          refine lv_aload_n hx hb dX12_begins_77 rfl (lv_at hl 0 rfl) ?_
          obtain ⟨r4, wr4, hf⟩ := ha_bds hf
          obtain ⟨wr4, hr4⟩ := ha_rf_some wr4
          refine ha_getr hx hb hown hK hP q96 hN h0 wr4 dX12_begins_78 ?_
          refine lv_bipush (v := 12) hx hb dX12_begins_81 (by decide) ?_
          refine lv_iload_n hx hb dX12_begins_83 rfl (lv_at hl 1 rfl) ?_
          refine lv_imul hx hb dX12_begins_84 ?_
          refine lv_iload hx hb dX12_begins_85 (lv_at hl 4 rfl) ?_
          refine lv_iadd hx hb dX12_begins_87 ?_
          obtain ⟨g5, hf⟩ := ha_gds hf
          refine ha_iald hx hb hK hP hN hr4 g5 dX12_begins_88 ?_
          refine lv_icmp_eq (tgt := 94) hx hb dX12_begins_89 (by decide) (fun c6 => ?_) (fun c6 => ?_)
          · have hf := ha_it hf c6
            obtain ⟨x7, ex7⟩ : ∃ y : Int32, y = (v4 : Int32) + 1 := ⟨_, rfl⟩
            have hf := ha_nms hf ex7
            refine lv_iinc (v := x7) (lv' := [(4, .int x7), (0, .ref (ad p0)), (1, .int p1), (2, .int p2), (3, .int v3)]) hx hb dX12_begins_94 hl (k := 4) rfl (by rw [ex7]; rfl) (by decide) rfl (fun ls hl => ?_)
            refine lv_goto (tgt := 62) hx hb dX12_begins_97 (by decide) ?_
            exact ih v3 x7 S H locs ls hf  hP hD hS (lv_sub hl [1, 2, 3, 4, 0] rfl)
          · have hf := ha_if hf c6
            refine lv_iconst (v := 0) hx hb dX12_begins_92 (by decide) ?_
            have he := hke _ hf
            exact ha_retz hx hb hr hlocks hP hD hS dX12_begins_93 (by decide) (ha_e1 he) (ha_e2 he)
    refine key8 _ (fun  S H locs ls hf  hP hD hS hl => ?_) (fun r h => Option.some.inj h) ha_fu v3 0 S H locs ls (ha_as hf)  hP hD hS (lv_sub hl [1, 2, 3, 4, 0] rfl)
    have hf : (f_X12_begins_J100 p0 p1 p2  S).bind some = some out := hf
    exact J100  S H locs ls hf  hP hD hS (lv_sub hl [0, 1, 2] rfl)
  have J57 : ∀  (S : ha_St) (H : Heap) (locs : List Loc) (ls : Array Slot), (f_X12_begins_J57 p0 p1 p2  S).bind some = some out → va_P D vwCl (ha_wl cs ad mo_kd mo_ln N S) H → va_D (ha_A ad N) (ha_wl cs ad mo_kd mo_ln N S) → va_S (ha_A ad N) s.heap H locs → lv_has ls 5 [(0, .ref (ad p0)), (1, .int p1), (2, .int p2)] → W p l e (headSpec wsX12_begins ({ frames := 0, cells := 0, slots := 0, locals := 0 } : Room)).room s m ([.ref (ad p0), .int p1, .int p2] : List Value).toArray below meth c H locs 0 0 (MQ below (va_Qi (fun (r : Int32) (_ : Unit) => r = out.1) (fun _ => ha_H D cs ad mo_kd mo_ln N out.2) (ha_A ad N)) ([.ref (ad p0), .int p1, .int p2] : List Value).toArray s 0 0 (ha_A ad N)) (F0 m 57 ls []) := by
    intro  S H locs ls hf  hP hD hS hl
    unfold f_X12_begins_J57 at hf
    refine lv_iconst (v := 0) hx hb dX12_begins_57 (by decide) ?_
    have he := Option.some.inj hf
    exact ha_retz hx hb hr hlocks hP hD hS dX12_begins_58 (by decide) (ha_e1 he) (ha_e2 he)
  have J34 : ∀ (v3 : Int32) (S : ha_St) (H : Heap) (locs : List Loc) (ls : Array Slot), (f_X12_begins_J34 p0 p1 p2 v3 S).bind some = some out → va_P D vwCl (ha_wl cs ad mo_kd mo_ln N S) H → va_D (ha_A ad N) (ha_wl cs ad mo_kd mo_ln N S) → va_S (ha_A ad N) s.heap H locs → lv_has ls 5 [(0, .ref (ad p0)), (1, .int p1), (2, .int p2), (3, .int v3)] → W p l e (headSpec wsX12_begins ({ frames := 0, cells := 0, slots := 0, locals := 0 } : Room)).room s m ([.ref (ad p0), .int p1, .int p2] : List Value).toArray below meth c H locs 0 0 (MQ below (va_Qi (fun (r : Int32) (_ : Unit) => r = out.1) (fun _ => ha_H D cs ad mo_kd mo_ln N out.2) (ha_A ad N)) ([.ref (ad p0), .int p1, .int p2] : List Value).toArray s 0 0 (ha_A ad N)) (F0 m 34 ls []) := by
    intro v3 S H locs ls hf  hP hD hS hl
    unfold f_X12_begins_J34 at hf
    refine lv_iload_n hx hb dX12_begins_34 rfl (lv_at hl 2 rfl) ?_
    refine lv_iload_n hx hb dX12_begins_35 rfl (lv_at hl 3 rfl) ?_
    refine lv_iadd hx hb dX12_begins_36 ?_
    refine lv_aload_n hx hb dX12_begins_37 rfl (lv_at hl 0 rfl) ?_
    refine ha_geti hx hb hown hK hP q365 hN h0 dX12_begins_38 ?_
    refine lv_icmp_ge (tgt := 59) hx hb dX12_begins_41 (by decide) (fun c10 => ?_) (fun c10 => ?_)
    · have hf := ha_it hf c10
      exact J59 v3 S H locs ls hf  hP hD hS (lv_sub hl [0, 1, 2, 3] rfl)
    · have hf := ha_if hf c10
      refine lv_aload_n hx hb dX12_begins_44 rfl (lv_at hl 0 rfl) ?_
      obtain ⟨r11, wr11, hf⟩ := ha_bds hf
      obtain ⟨wr11, hr11⟩ := ha_rf_some wr11
      refine ha_getr hx hb hown hK hP q108 hN h0 wr11 dX12_begins_45 ?_
      refine lv_iload_n hx hb dX12_begins_48 rfl (lv_at hl 2 rfl) ?_
      refine lv_iload_n hx hb dX12_begins_49 rfl (lv_at hl 3 rfl) ?_
      refine lv_iadd hx hb dX12_begins_50 ?_
      obtain ⟨g12, hf⟩ := ha_gds hf
      refine ha_iald hx hb hK hP hN hr11 g12 dX12_begins_51 ?_
      refine lv_bipush (v := 32) hx hb dX12_begins_52 (by decide) ?_
      refine lv_icmp_eq (tgt := 59) hx hb dX12_begins_54 (by decide) (fun c13 => ?_) (fun c13 => ?_)
      · have hf := ha_it hf c13
        exact J59 v3 S H locs ls hf  hP hD hS (lv_sub hl [0, 1, 2, 3] rfl)
      · have hf := ha_if hf c13
        exact J57  S H locs ls hf  hP hD hS (lv_sub hl [0, 1, 2] rfl)
  unfold f_X12_begins at hf
  refine lv_aload_n hx hb dX12_begins_0 rfl (lv_at hl 0 rfl) ?_
  obtain ⟨r14, wr14, hf⟩ := ha_bds hf
  obtain ⟨wr14, hr14⟩ := ha_rf_some wr14
  refine ha_getr hx hb hown hK hP q99 hN h0 wr14 dX12_begins_1 ?_
  refine lv_iload_n hx hb dX12_begins_4 rfl (lv_at hl 1 rfl) ?_
  obtain ⟨g15, hf⟩ := ha_gds hf
  refine ha_iald hx hb hK hP hN hr14 g15 dX12_begins_5 ?_
  refine lv_topi (fun x16 ex16 => ?_)
  have hf := ha_nms hf ex16
  refine lv_istore_n (lv' := [(3, .int x16), (0, .ref (ad p0)), (1, .int p1), (2, .int p2)]) hx hb dX12_begins_6 rfl hl (by decide) rfl (fun ls hl => ?_)
  refine lv_iload_n hx hb dX12_begins_7 rfl (lv_at hl 3 rfl) ?_
  refine lv_iload_n hx hb dX12_begins_8 rfl (lv_at hl 0 rfl) ?_
  refine lv_iadd hx hb dX12_begins_9 ?_
  refine lv_aload_n hx hb dX12_begins_10 rfl (lv_at hl 1 rfl) ?_
  refine ha_geti hx hb hown hK hP q365 hN h0 dX12_begins_11 ?_
  refine lv_icmp_gt (tgt := 57) hx hb dX12_begins_14 (by decide) (fun c17 => ?_) (fun c17 => ?_)
  · have hf := ha_it hf c17
    exact J57  S H locs ls hf  hP hD hS (lv_sub hl [1, 2, 3] rfl)
  · have hf := ha_if hf c17
    refine lv_iload_n hx hb dX12_begins_17 rfl (lv_at hl 3 rfl) ?_
    refine lv_if_le (tgt := 34) hx hb dX12_begins_18 (by decide) (fun c18 => ?_) (fun c18 => ?_)
    · have hf := ha_it hf c18
      exact J34 x16 S H locs ls hf  hP hD hS (lv_sub hl [1, 2, 3, 0] rfl)
    · have hf := ha_if hf c18
      refine lv_aload_n hx hb dX12_begins_21 rfl (lv_at hl 1 rfl) ?_
      obtain ⟨r19, wr19, hf⟩ := ha_bds hf
      obtain ⟨wr19, hr19⟩ := ha_rf_some wr19
      refine ha_getr hx hb hown hK hP q108 hN h0 wr19 dX12_begins_22 ?_
      refine lv_iload_n hx hb dX12_begins_25 rfl (lv_at hl 3 rfl) ?_
      refine lv_iconst (v := 1) hx hb dX12_begins_26 (by decide) ?_
      refine lv_isub hx hb dX12_begins_27 ?_
      obtain ⟨g20, hf⟩ := ha_gds hf
      refine ha_iald hx hb hK hP hN hr19 g20 dX12_begins_28 ?_
      refine lv_bipush (v := 32) hx hb dX12_begins_29 (by decide) ?_
      refine lv_icmp_ne (tgt := 57) hx hb dX12_begins_31 (by decide) (fun c21 => ?_) (fun c21 => ?_)
      · have hf := ha_it hf c21
        exact J57  S H locs ls hf  hP hD hS (lv_sub hl [1, 2, 3] rfl)
      · have hf := ha_if hf (fun q => q c21)
        exact J34 x16 S H locs ls hf  hP hD hS (lv_sub hl [1, 2, 3, 0] rfl)

set_option maxHeartbeats 4000000 in
set_option maxRecDepth 100000 in
theorem c_X12_fewestBy {l : Launch} {D : va_G} {cs : Nat → ClassId} {ad : Nat → Nat} {N : List Nat} {Z : State → Prop} (hZ : ha_Zok (ha_A ad N) Z) (hN : ∀ x, mo_kd x < 999 → x ∈ N) {p0 : Nat} {p1 : Int32} {S : ha_St} {out : Int32 × ha_St} (h0 : mo_kd p0 = 12) (hf : f_X12_fewestBy p0 p1 S = some out) : ha_Ci l D cs ad mo_kd mo_ln N Z yX12_fewestBy wsX12_fewestBy ({ frames := 1, cells := 0, slots := 0, locals := 24 } : Room) [.ref (ad p0), .int p1] S out.1 out.2 := by
  refine Met.ofW (cc := cX12_fewestBy) (maxL := 4) (ret := (some .int)) (by decide +kernel) rfl ?_
  intro p e s m args below meth c s₁ B hml hv
  obtain ⟨rfl, hP, hD, hK, hz⟩ := hv
  have hx := B.exec
  have hb := B.bytes
  have hr := B.returns
  have hts := atoms_spec (ws := wsX12_fewestBy) B.pre
  have hown : s.vm.findClass RX12 = some m.cls := findClass_of_methodNamed B.named
  have hlocks := B.notSynchronized
  have hS : va_S (ha_A ad N) s.heap s.heap [] := va_S.rf
  have hi12 : ∀ w ∈ wsX120, w ∈ wsX12_fewestBy := fun w h => List.mem_cons_of_mem _ (List.mem_append_right _ h)
  have q111 : ha_Fk s ([.ref (ad p0), .int p1] : List Value).toArray RX12 111 12 70 1 := ⟨RX12, TX12, 83, wsX12_fewestBy, rfl, by decide, by decide, rfl, rfl, hts, hi12, hts (.fieldLink RX12 111 "HillArmsModel" "fewest" "[I") (by decide +kernel)⟩
  have q365 : ha_Fk s ([.ref (ad p0), .int p1] : List Value).toArray RX12 365 12 72 0 := ⟨RX12, TX12, 83, wsX12_fewestBy, rfl, by decide, by decide, rfl, rfl, hts, hi12, hts (.fieldLink RX12 365 "HillArmsModel" "atSize" "I") (by decide +kernel)⟩
  have q359 : ha_Fk s ([.ref (ad p0), .int p1] : List Value).toArray RX12 359 12 67 0 := ⟨RX12, TX12, 83, wsX12_fewestBy, rfl, by decide, by decide, rfl, rfl, hts, hi12, hts (.fieldLink RX12 359 "HillArmsModel" "entries" "I") (by decide +kernel)⟩
  have q99 : ha_Fk s ([.ref (ad p0), .int p1] : List Value).toArray RX12 99 12 64 1 := ⟨RX12, TX12, 83, wsX12_fewestBy, rfl, by decide, by decide, rfl, rfl, hts, hi12, hts (.fieldLink RX12 99 "HillArmsModel" "entrySize" "[I") (by decide +kernel)⟩
  have cw0 := cwV (R := (headSpec wsX12_fewestBy ({ frames := 1, cells := 0, slots := 0, locals := 24 } : Room)).room) 2 hts gX12_fewestBy_X12_begins (rm := ({ frames := 0, cells := 0, slots := 0, locals := 0 } : Room)) (mc := 0) (ms := 0) rfl rfl rfl (by decide +kernel) ⟨Nat.le_of_ble_eq_true rfl, Nat.le_of_ble_eq_true rfl⟩
  have hl := lv_entry ([.ref (ad p0), .int p1]) (n := 4) (Nat.le_of_ble_eq_true rfl)
  rw [lg_entry_eq]
  generalize (lg_sl ([.ref (ad p0), .int p1]) ++ List.replicate (4 - (lg_sl ([.ref (ad p0), .int p1])).length) Slot.unset).toArray = ls at hl ⊢
  have hl : lv_has ls 4 [(0, .ref (ad p0)), (1, .int p1)] := hl
  refine (fun (K0 : ∀ (H : Heap) (locs : List Loc), va_P D vwCl (ha_wl cs ad mo_kd mo_ln N S) H → va_S (ha_A ad N) s.heap H locs → W p l e (headSpec wsX12_fewestBy ({ frames := 1, cells := 0, slots := 0, locals := 24 } : Room)).room s m ([.ref (ad p0), .int p1] : List Value).toArray below meth c H locs 0 0 (MQ below (va_Qi (fun (r : Int32) (_ : Unit) => r = out.1) (fun _ => ha_H D cs ad mo_kd mo_ln N out.2) (ha_A ad N)) ([.ref (ad p0), .int p1] : List Value).toArray s 0 0 (ha_A ad N)) (F0 m 0 ls [])) => K0 _ _ hP hS) ?_
  intro H locs hP hS
  have hf := ha_rt hf
  have J122 : ∀  (S : ha_St) (H : Heap) (locs : List Loc) (ls : Array Slot), (f_X12_fewestBy_J122 p0 p1  S).bind some = some out → va_P D vwCl (ha_wl cs ad mo_kd mo_ln N S) H → va_D (ha_A ad N) (ha_wl cs ad mo_kd mo_ln N S) → va_S (ha_A ad N) s.heap H locs → lv_has ls 4 [(0, .ref (ad p0)), (1, .int p1)] → W p l e (headSpec wsX12_fewestBy ({ frames := 1, cells := 0, slots := 0, locals := 24 } : Room)).room s m ([.ref (ad p0), .int p1] : List Value).toArray below meth c H locs 0 0 (MQ below (va_Qi (fun (r : Int32) (_ : Unit) => r = out.1) (fun _ => ha_H D cs ad mo_kd mo_ln N out.2) (ha_A ad N)) ([.ref (ad p0), .int p1] : List Value).toArray s 0 0 (ha_A ad N)) (F0 m 122 ls []) := by
    intro  S H locs ls hf  hP hD hS hl
    unfold f_X12_fewestBy_J122 at hf
    refine lv_aload_n hx hb dX12_fewestBy_122 rfl (lv_at hl 0 rfl) ?_
    obtain ⟨r1, wr1, hf⟩ := ha_bds hf
    obtain ⟨wr1, hr1⟩ := ha_rf_some wr1
    refine ha_getr hx hb hown hK hP q111 hN h0 wr1 dX12_fewestBy_123 ?_
    refine lv_iconst (v := 0) hx hb dX12_fewestBy_126 (by decide) ?_
    obtain ⟨g2, hf⟩ := ha_gds hf
    refine ha_iald hx hb hK hP hN hr1 g2 dX12_fewestBy_127 ?_
    have he := Option.some.inj hf
    exact ha_reti hx hb hr hlocks hP hD hS dX12_fewestBy_128 (ha_e1 he) (ha_e2 he)
  unfold f_X12_fewestBy at hf
  refine lv_aload_n hx hb dX12_fewestBy_0 rfl (lv_at hl 0 rfl) ?_
  obtain ⟨r3, wr3, hf⟩ := ha_bds hf
  obtain ⟨wr3, hr3⟩ := ha_rf_some wr3
  refine ha_getr hx hb hown hK hP q111 hN h0 wr3 dX12_fewestBy_1 ?_
  refine lv_aload_n hx hb dX12_fewestBy_4 rfl (lv_at hl 0 rfl) ?_
  refine ha_geti hx hb hown hK hP q365 hN h0 dX12_fewestBy_5 ?_
  refine lv_iconst (v := 0) hx hb dX12_fewestBy_8 (by decide) ?_
  obtain ⟨g4, hf⟩ := ha_gds hf
  refine ha_iast hx hb hK hP hD hS hN hr3 g4 dX12_fewestBy_9 (fun S5 H locs eS5 hP hD hS => ?_)
  have hf := ha_nms hf eS5
  refine lv_aload_n hx hb dX12_fewestBy_10 rfl (lv_at hl 0 rfl) ?_
  refine ha_geti hx hb hown hK hP q365 hN h0 dX12_fewestBy_11 ?_
  refine lv_iconst (v := 1) hx hb dX12_fewestBy_14 (by decide) ?_
  refine lv_isub hx hb dX12_fewestBy_15 ?_
  refine lv_topi (fun x6 ex6 => ?_)
  have hf := ha_nms hf ex6
  refine lv_istore_n (lv' := [(2, .int x6), (0, .ref (ad p0)), (1, .int p1)]) hx hb dX12_fewestBy_16 rfl hl (by decide) rfl (fun ls hl => ?_)
  have key35 : ∀ (K : (ha_St) → Option (Int32 × ha_St)), (∀  (S : ha_St) (H : Heap) (locs : List Loc) (ls : Array Slot), K S = some out → va_P D vwCl (ha_wl cs ad mo_kd mo_ln N S) H → va_D (ha_A ad N) (ha_wl cs ad mo_kd mo_ln N S) → va_S (ha_A ad N) s.heap H locs → lv_has ls 4 [(0, .ref (ad p0)), (1, .int p1)] → W p l e (headSpec wsX12_fewestBy ({ frames := 1, cells := 0, slots := 0, locals := 24 } : Room)).room s m ([.ref (ad p0), .int p1] : List Value).toArray below meth c H locs 0 0 (MQ below (va_Qi (fun (r : Int32) (_ : Unit) => r = out.1) (fun _ => ha_H D cs ad mo_kd mo_ln N out.2) (ha_A ad N)) ([.ref (ad p0), .int p1] : List Value).toArray s 0 0 (ha_A ad N)) (F0 m 122 ls [])) → ∀ (n : Nat) (v2 : Int32) (S : ha_St) (H : Heap) (locs : List Loc) (ls : Array Slot), (f_X12_fewestBy_L17i p0 p1 n (v2, S)).bind K = some out → va_P D vwCl (ha_wl cs ad mo_kd mo_ln N S) H → va_D (ha_A ad N) (ha_wl cs ad mo_kd mo_ln N S) → va_S (ha_A ad N) s.heap H locs → lv_has ls 4 [(0, .ref (ad p0)), (1, .int p1), (2, .int v2)] → W p l e (headSpec wsX12_fewestBy ({ frames := 1, cells := 0, slots := 0, locals := 24 } : Room)).room s m ([.ref (ad p0), .int p1] : List Value).toArray below meth c H locs 0 0 (MQ below (va_Qi (fun (r : Int32) (_ : Unit) => r = out.1) (fun _ => ha_H D cs ad mo_kd mo_ln N out.2) (ha_A ad N)) ([.ref (ad p0), .int p1] : List Value).toArray s 0 0 (ha_A ad N)) (F0 m 17 ls []) := by
    intro K hk n
    induction n with
    | zero =>
      intro v2 S H locs ls hf
      exact absurd (show (none : Option (Int32 × ha_St)) = some out from hf) (fun h => by cases h)
    | succ n ih =>
      intro v2 S H locs ls hf  hP hD hS hl
      have J116 : ∀ (v2 : Int32) (S : ha_St) (H : Heap) (locs : List Loc) (ls : Array Slot), (f_X12_fewestBy_L17_J116 p0 p1 (f_X12_fewestBy_L17i p0 p1 n) v2 S).bind K = some out → va_P D vwCl (ha_wl cs ad mo_kd mo_ln N S) H → va_D (ha_A ad N) (ha_wl cs ad mo_kd mo_ln N S) → va_S (ha_A ad N) s.heap H locs → lv_has ls 4 [(0, .ref (ad p0)), (1, .int p1), (2, .int v2)] → W p l e (headSpec wsX12_fewestBy ({ frames := 1, cells := 0, slots := 0, locals := 24 } : Room)).room s m ([.ref (ad p0), .int p1] : List Value).toArray below meth c H locs 0 0 (MQ below (va_Qi (fun (r : Int32) (_ : Unit) => r = out.1) (fun _ => ha_H D cs ad mo_kd mo_ln N out.2) (ha_A ad N)) ([.ref (ad p0), .int p1] : List Value).toArray s 0 0 (ha_A ad N)) (F0 m 116 ls []) := by
        intro v2 S H locs ls hf  hP hD hS hl
        unfold f_X12_fewestBy_L17_J116 at hf
        obtain ⟨x7, ex7⟩ : ∃ y : Int32, y = (v2 : Int32) + (-1) := ⟨_, rfl⟩
        have hf := ha_nms hf ex7
        refine lv_iinc (v := x7) (lv' := [(2, .int x7), (0, .ref (ad p0)), (1, .int p1)]) hx hb dX12_fewestBy_116 hl (k := 2) rfl (by rw [ex7]; rfl) (by decide) rfl (fun ls hl => ?_)
        refine lv_goto (tgt := 17) hx hb dX12_fewestBy_119 (by decide) ?_
        exact ih x7 S H locs ls hf  hP hD hS (lv_sub hl [1, 2, 0] rfl)
      have hf : (f_X12_fewestBy_L17 p0 p1 (f_X12_fewestBy_L17i p0 p1 n) v2 S).bind K = some out := hf
      unfold f_X12_fewestBy_L17 at hf
      refine lv_iload_n hx hb dX12_fewestBy_17 rfl (lv_at hl 2 rfl) ?_
      refine lv_if_lt (tgt := 122) hx hb dX12_fewestBy_18 (by decide) (fun c8 => ?_) (fun c8 => ?_)
      · have hf := ha_it hf c8
        exact hk  S H locs ls hf  hP hD hS (lv_sub hl [0, 1] rfl)
      · have hf := ha_if hf c8
        refine lv_aload_n hx hb dX12_fewestBy_21 rfl (lv_at hl 0 rfl) ?_
        obtain ⟨r9, wr9, hf⟩ := ha_bds hf
        obtain ⟨wr9, hr9⟩ := ha_rf_some wr9
        refine ha_getr hx hb hown hK hP q111 hN h0 wr9 dX12_fewestBy_22 ?_
        refine lv_iload_n hx hb dX12_fewestBy_25 rfl (lv_at hl 2 rfl) ?_
        refine lv_aload_n hx hb dX12_fewestBy_26 rfl (lv_at hl 0 rfl) ?_
        obtain ⟨r10, wr10, hf⟩ := ha_bds hf
        obtain ⟨wr10, hr10⟩ := ha_rf_some wr10
        refine ha_getr hx hb hown hK hP q111 hN h0 wr10 dX12_fewestBy_27 ?_
        refine lv_iload_n hx hb dX12_fewestBy_30 rfl (lv_at hl 2 rfl) ?_
        refine lv_iconst (v := 1) hx hb dX12_fewestBy_31 (by decide) ?_
        refine lv_iadd hx hb dX12_fewestBy_32 ?_
        obtain ⟨g11, hf⟩ := ha_gds hf
        refine ha_iald hx hb hK hP hN hr10 g11 dX12_fewestBy_33 ?_
        refine lv_iconst (v := 1) hx hb dX12_fewestBy_34 (by decide) ?_
        refine lv_iadd hx hb dX12_fewestBy_35 ?_
        obtain ⟨g12, hf⟩ := ha_gds hf
        refine ha_iast hx hb hK hP hD hS hN hr9 g12 dX12_fewestBy_36 (fun S13 H locs eS13 hP hD hS => ?_)
        have hf := ha_nms hf eS13
        refine lv_iconst (v := 0) hx hb dX12_fewestBy_37 (by decide) ?_
        refine lv_istore_n (lv' := [(3, .int 0), (0, .ref (ad p0)), (1, .int p1), (2, .int v2)]) hx hb dX12_fewestBy_38 rfl hl (by decide) rfl (fun ls hl => ?_)
        have key33 : ∀ (K : (Int32 × ha_St) → Option (Int32 × ha_St)), (∀ (v2 : Int32) (S : ha_St) (H : Heap) (locs : List Loc) (ls : Array Slot), K (v2, S) = some out → va_P D vwCl (ha_wl cs ad mo_kd mo_ln N S) H → va_D (ha_A ad N) (ha_wl cs ad mo_kd mo_ln N S) → va_S (ha_A ad N) s.heap H locs → lv_has ls 4 [(0, .ref (ad p0)), (1, .int p1), (2, .int v2)] → W p l e (headSpec wsX12_fewestBy ({ frames := 1, cells := 0, slots := 0, locals := 24 } : Room)).room s m ([.ref (ad p0), .int p1] : List Value).toArray below meth c H locs 0 0 (MQ below (va_Qi (fun (r : Int32) (_ : Unit) => r = out.1) (fun _ => ha_H D cs ad mo_kd mo_ln N out.2) (ha_A ad N)) ([.ref (ad p0), .int p1] : List Value).toArray s 0 0 (ha_A ad N)) (F0 m 116 ls [])) → ∀ (n : Nat) (v2 : Int32) (v3 : Int32) (S : ha_St) (H : Heap) (locs : List Loc) (ls : Array Slot), (f_X12_fewestBy_L39i p0 p1 n (v2, v3, S)).bind K = some out → va_P D vwCl (ha_wl cs ad mo_kd mo_ln N S) H → va_D (ha_A ad N) (ha_wl cs ad mo_kd mo_ln N S) → va_S (ha_A ad N) s.heap H locs → lv_has ls 4 [(0, .ref (ad p0)), (1, .int p1), (2, .int v2), (3, .int v3)] → W p l e (headSpec wsX12_fewestBy ({ frames := 1, cells := 0, slots := 0, locals := 24 } : Room)).room s m ([.ref (ad p0), .int p1] : List Value).toArray below meth c H locs 0 0 (MQ below (va_Qi (fun (r : Int32) (_ : Unit) => r = out.1) (fun _ => ha_H D cs ad mo_kd mo_ln N out.2) (ha_A ad N)) ([.ref (ad p0), .int p1] : List Value).toArray s 0 0 (ha_A ad N)) (F0 m 39 ls []) := by
          intro K hk n
          induction n with
          | zero =>
            intro v2 v3 S H locs ls hf
            exact absurd (show (none : Option (Int32 × ha_St)) = some out from hf) (fun h => by cases h)
          | succ n ih =>
            intro v2 v3 S H locs ls hf  hP hD hS hl
            have J110 : ∀ (v2 : Int32) (v3 : Int32) (S : ha_St) (H : Heap) (locs : List Loc) (ls : Array Slot), (f_X12_fewestBy_L39_J110 p0 p1 (f_X12_fewestBy_L39i p0 p1 n) v2 v3 S).bind K = some out → va_P D vwCl (ha_wl cs ad mo_kd mo_ln N S) H → va_D (ha_A ad N) (ha_wl cs ad mo_kd mo_ln N S) → va_S (ha_A ad N) s.heap H locs → lv_has ls 4 [(0, .ref (ad p0)), (1, .int p1), (2, .int v2), (3, .int v3)] → W p l e (headSpec wsX12_fewestBy ({ frames := 1, cells := 0, slots := 0, locals := 24 } : Room)).room s m ([.ref (ad p0), .int p1] : List Value).toArray below meth c H locs 0 0 (MQ below (va_Qi (fun (r : Int32) (_ : Unit) => r = out.1) (fun _ => ha_H D cs ad mo_kd mo_ln N out.2) (ha_A ad N)) ([.ref (ad p0), .int p1] : List Value).toArray s 0 0 (ha_A ad N)) (F0 m 110 ls []) := by
              intro v2 v3 S H locs ls hf  hP hD hS hl
              unfold f_X12_fewestBy_L39_J110 at hf
              obtain ⟨x14, ex14⟩ : ∃ y : Int32, y = (v3 : Int32) + 1 := ⟨_, rfl⟩
              have hf := ha_nms hf ex14
              refine lv_iinc (v := x14) (lv' := [(3, .int x14), (0, .ref (ad p0)), (1, .int p1), (2, .int v2)]) hx hb dX12_fewestBy_110 hl (k := 3) rfl (by rw [ex14]; rfl) (by decide) rfl (fun ls hl => ?_)
              refine lv_goto (tgt := 39) hx hb dX12_fewestBy_113 (by decide) ?_
              exact ih v2 x14 S H locs ls hf  hP hD hS (lv_sub hl [1, 2, 3, 0] rfl)
            have hf : (f_X12_fewestBy_L39 p0 p1 (f_X12_fewestBy_L39i p0 p1 n) v2 v3 S).bind K = some out := hf
            unfold f_X12_fewestBy_L39 at hf
            refine lv_iload_n hx hb dX12_fewestBy_39 rfl (lv_at hl 3 rfl) ?_
            refine lv_aload_n hx hb dX12_fewestBy_40 rfl (lv_at hl 0 rfl) ?_
            refine ha_geti hx hb hown hK hP q359 hN h0 dX12_fewestBy_41 ?_
            refine lv_icmp_ge (tgt := 116) hx hb dX12_fewestBy_44 (by decide) (fun c15 => ?_) (fun c15 => ?_)
            · have hf := ha_it hf c15
              exact hk v2 S H locs ls hf  hP hD hS (lv_sub hl [0, 1, 2] rfl)
            · have hf := ha_if hf c15
              refine lv_iload_n hx hb dX12_fewestBy_47 rfl (lv_at hl 1 rfl) ?_
              refine lv_iload_n hx hb dX12_fewestBy_48 rfl (lv_at hl 3 rfl) ?_
              refine lv_ishr hx hb dX12_fewestBy_49 ?_
              refine lv_iconst (v := 1) hx hb dX12_fewestBy_50 (by decide) ?_
              refine lv_iand hx hb dX12_fewestBy_51 ?_
              refine lv_iconst (v := 1) hx hb dX12_fewestBy_52 (by decide) ?_
              refine lv_icmp_ne (tgt := 110) hx hb dX12_fewestBy_53 (by decide) (fun c16 => ?_) (fun c16 => ?_)
              · have hf := ha_it hf c16
                exact J110 v2 v3 S H locs ls hf  hP hD hS (lv_sub hl [0, 1, 2, 3] rfl)
              · have hf := ha_if hf (fun q => q c16)
                refine lv_aload_n hx hb dX12_fewestBy_56 rfl (lv_at hl 0 rfl) ?_
                refine lv_iload_n hx hb dX12_fewestBy_57 rfl (lv_at hl 3 rfl) ?_
                refine lv_iload_n hx hb dX12_fewestBy_58 rfl (lv_at hl 2 rfl) ?_
                obtain ⟨z17, wz17, hf⟩ := ha_bds hf
                refine ha_callVi (As := [.int v3, .int v2]) (rest := []) hZ ⟨hx, hb, hml, hown, hts⟩ hK hz hP hD hS (c_X12_begins hZ hN h0 wz17) cw0 hN h0 (by decide) rfl rfl hl.1 rfl (Nat.le_of_ble_eq_true rfl) dX12_fewestBy_59 ⟨Nat.le_of_ble_eq_true rfl, Nat.le_of_ble_eq_true rfl⟩ (fun H locs hP hD hS => ?_)
                refine lv_if_eq (tgt := 110) hx hb dX12_fewestBy_62 (by decide) (fun c18 => ?_) (fun c18 => ?_)
                · have hf := ha_it hf c18
                  exact J110 v2 v3 z17.2 H locs ls hf  hP hD hS (lv_sub hl [0, 1, 2, 3] rfl)
                · have hf := ha_if hf c18
                  refine lv_aload_n hx hb dX12_fewestBy_65 rfl (lv_at hl 0 rfl) ?_
                  obtain ⟨r19, wr19, hf⟩ := ha_bds hf
                  obtain ⟨wr19, hr19⟩ := ha_rf_some wr19
                  refine ha_getr hx hb hown hK hP q111 hN h0 wr19 dX12_fewestBy_66 ?_
                  refine lv_iload_n hx hb dX12_fewestBy_69 rfl (lv_at hl 2 rfl) ?_
                  refine lv_aload_n hx hb dX12_fewestBy_70 rfl (lv_at hl 0 rfl) ?_
                  obtain ⟨r20, wr20, hf⟩ := ha_bds hf
                  obtain ⟨wr20, hr20⟩ := ha_rf_some wr20
                  refine ha_getr hx hb hown hK hP q99 hN h0 wr20 dX12_fewestBy_71 ?_
                  refine lv_iload_n hx hb dX12_fewestBy_74 rfl (lv_at hl 3 rfl) ?_
                  obtain ⟨g21, hf⟩ := ha_gds hf
                  refine ha_iald hx hb hK hP hN hr20 g21 dX12_fewestBy_75 ?_
                  refine lv_iadd hx hb dX12_fewestBy_76 ?_
                  obtain ⟨g22, hf⟩ := ha_gds hf
                  refine ha_iald hx hb hK hP hN hr19 g22 dX12_fewestBy_77 ?_
                  refine lv_iconst (v := 2) hx hb dX12_fewestBy_78 (by decide) ?_
                  refine lv_iadd hx hb dX12_fewestBy_79 ?_
                  refine lv_aload_n hx hb dX12_fewestBy_80 rfl (lv_at hl 0 rfl) ?_
                  obtain ⟨r23, wr23, hf⟩ := ha_bds hf
                  obtain ⟨wr23, hr23⟩ := ha_rf_some wr23
                  refine ha_getr hx hb hown hK hP q111 hN h0 wr23 dX12_fewestBy_81 ?_
                  refine lv_iload_n hx hb dX12_fewestBy_84 rfl (lv_at hl 2 rfl) ?_
                  obtain ⟨g24, hf⟩ := ha_gds hf
                  refine ha_iald hx hb hK hP hN hr23 g24 dX12_fewestBy_85 ?_
                  refine lv_icmp_ge (tgt := 110) hx hb dX12_fewestBy_86 (by decide) (fun c25 => ?_) (fun c25 => ?_)
                  · have hf := ha_it hf c25
                    exact J110 v2 v3 z17.2 H locs ls hf  hP hD hS (lv_sub hl [0, 1, 2, 3] rfl)
                  · have hf := ha_if hf c25
                    refine lv_aload_n hx hb dX12_fewestBy_89 rfl (lv_at hl 0 rfl) ?_
                    obtain ⟨r26, wr26, hf⟩ := ha_bds hf
                    obtain ⟨wr26, hr26⟩ := ha_rf_some wr26
                    refine ha_getr hx hb hown hK hP q111 hN h0 wr26 dX12_fewestBy_90 ?_
                    refine lv_iload_n hx hb dX12_fewestBy_93 rfl (lv_at hl 2 rfl) ?_
                    refine lv_aload_n hx hb dX12_fewestBy_94 rfl (lv_at hl 0 rfl) ?_
                    obtain ⟨r27, wr27, hf⟩ := ha_bds hf
                    obtain ⟨wr27, hr27⟩ := ha_rf_some wr27
                    refine ha_getr hx hb hown hK hP q111 hN h0 wr27 dX12_fewestBy_95 ?_
                    refine lv_iload_n hx hb dX12_fewestBy_98 rfl (lv_at hl 2 rfl) ?_
                    refine lv_aload_n hx hb dX12_fewestBy_99 rfl (lv_at hl 0 rfl) ?_
                    obtain ⟨r28, wr28, hf⟩ := ha_bds hf
                    obtain ⟨wr28, hr28⟩ := ha_rf_some wr28
                    refine ha_getr hx hb hown hK hP q99 hN h0 wr28 dX12_fewestBy_100 ?_
                    refine lv_iload_n hx hb dX12_fewestBy_103 rfl (lv_at hl 3 rfl) ?_
                    obtain ⟨g29, hf⟩ := ha_gds hf
                    refine ha_iald hx hb hK hP hN hr28 g29 dX12_fewestBy_104 ?_
                    refine lv_iadd hx hb dX12_fewestBy_105 ?_
                    obtain ⟨g30, hf⟩ := ha_gds hf
                    refine ha_iald hx hb hK hP hN hr27 g30 dX12_fewestBy_106 ?_
                    refine lv_iconst (v := 2) hx hb dX12_fewestBy_107 (by decide) ?_
                    refine lv_iadd hx hb dX12_fewestBy_108 ?_
                    obtain ⟨g31, hf⟩ := ha_gds hf
                    refine ha_iast hx hb hK hP hD hS hN hr26 g31 dX12_fewestBy_109 (fun S32 H locs eS32 hP hD hS => ?_)
                    have hf := ha_nms hf eS32
                    exact J110 v2 v3 S32 H locs ls hf  hP hD hS (lv_sub hl [0, 1, 2, 3] rfl)
        refine key33 _ (fun v2 S H locs ls hf  hP hD hS hl => ?_) ha_fu v2 0 S13 H locs ls (ha_as hf)  hP hD hS (lv_sub hl [1, 2, 3, 0] rfl)
        have hf : (f_X12_fewestBy_L17_J116 p0 p1 (f_X12_fewestBy_L17i p0 p1 n) v2 S).bind K = some out := hf
        exact J116 v2 S H locs ls hf  hP hD hS (lv_sub hl [0, 1, 2] rfl)
  refine key35 _ (fun  S H locs ls hf  hP hD hS hl => ?_) ha_fu x6 S5 H locs ls (ha_as hf)  hP hD hS (lv_sub hl [1, 2, 0] rfl)
  have hf : (f_X12_fewestBy_J122 p0 p1  S).bind some = some out := hf
  exact J122  S H locs ls hf  hP hD hS (lv_sub hl [0, 1] rfl)

set_option maxHeartbeats 4000000 in
set_option maxRecDepth 100000 in
theorem c_X12_code {l : Launch} {D : va_G} {cs : Nat → ClassId} {ad : Nat → Nat} {N : List Nat} {Z : State → Prop} (hZ : ha_Zok (ha_A ad N) Z) (hN : ∀ x, mo_kd x < 999 → x ∈ N) {p0 : Nat} {S : ha_St} {out : Int32 × ha_St} (h0 : mo_kd p0 = 12) (hf : f_X12_code p0 S = some out) : ha_Ci l D cs ad mo_kd mo_ln N Z yX12_code wsX12_code ({ frames := 2, cells := 0, slots := 0, locals := 47 } : Room) [.ref (ad p0)] S out.1 out.2 := by
  refine Met.ofW (cc := cX12_code) (maxL := 5) (ret := (some .int)) (by decide +kernel) rfl ?_
  intro p e s m args below meth c s₁ B hml hv
  obtain ⟨rfl, hP, hD, hK, hz⟩ := hv
  have hx := B.exec
  have hb := B.bytes
  have hr := B.returns
  have hts := atoms_spec (ws := wsX12_code) B.pre
  have hown : s.vm.findClass RX12 = some m.cls := findClass_of_methodNamed B.named
  have hlocks := B.notSynchronized
  have hS : va_S (ha_A ad N) s.heap s.heap [] := va_S.rf
  have hi12 : ∀ w ∈ wsX120, w ∈ wsX12_code := fun w h => List.mem_cons_of_mem _ (List.mem_append_right _ h)
  have q374 : ha_Fk s ([.ref (ad p0)] : List Value).toArray RX12 374 12 73 0 := ⟨RX12, TX12, 83, wsX12_code, rfl, by decide, by decide, rfl, rfl, hts, hi12, hts (.fieldLink RX12 374 "HillArmsModel" "pieceMany" "I") (by decide +kernel)⟩
  have q359 : ha_Fk s ([.ref (ad p0)] : List Value).toArray RX12 359 12 67 0 := ⟨RX12, TX12, 83, wsX12_code, rfl, by decide, by decide, rfl, rfl, hts, hi12, hts (.fieldLink RX12 359 "HillArmsModel" "entries" "I") (by decide +kernel)⟩
  have q99 : ha_Fk s ([.ref (ad p0)] : List Value).toArray RX12 99 12 64 1 := ⟨RX12, TX12, 83, wsX12_code, rfl, by decide, by decide, rfl, rfl, hts, hi12, hts (.fieldLink RX12 99 "HillArmsModel" "entrySize" "[I") (by decide +kernel)⟩
  have q114 : ha_Fk s ([.ref (ad p0)] : List Value).toArray RX12 114 12 71 1 := ⟨RX12, TX12, 83, wsX12_code, rfl, by decide, by decide, rfl, rfl, hts, hi12, hts (.fieldLink RX12 114 "HillArmsModel" "pieces" "[I") (by decide +kernel)⟩
  have q108 : ha_Fk s ([.ref (ad p0)] : List Value).toArray RX12 108 12 69 1 := ⟨RX12, TX12, 83, wsX12_code, rfl, by decide, by decide, rfl, rfl, hts, hi12, hts (.fieldLink RX12 108 "HillArmsModel" "at" "[I") (by decide +kernel)⟩
  have q111 : ha_Fk s ([.ref (ad p0)] : List Value).toArray RX12 111 12 70 1 := ⟨RX12, TX12, 83, wsX12_code, rfl, by decide, by decide, rfl, rfl, hts, hi12, hts (.fieldLink RX12 111 "HillArmsModel" "fewest" "[I") (by decide +kernel)⟩
  have q7 : ha_Fk s ([.ref (ad p0)] : List Value).toArray RX12 7 12 1 1 := ⟨RX12, TX12, 83, wsX12_code, rfl, by decide, by decide, rfl, rfl, hts, hi12, hts (.fieldLink RX12 7 "HillArmsModel" "tape" "[I") (by decide +kernel)⟩
  have r365 : ha_Fp s ([.ref (ad p0)] : List Value).toArray RX12 365 12 72 0 .int := ⟨RX12, TX12, 83, wsX12_code, tyX12, rfl, by decide, by decide, rfl, rfl, hts, hi12, hts (.fieldLink RX12 365 "HillArmsModel" "atSize" "I") (by decide +kernel), tyX12_ok, nmX12, rfl, by decide +kernel⟩
  have r374 : ha_Fp s ([.ref (ad p0)] : List Value).toArray RX12 374 12 73 0 .int := ⟨RX12, TX12, 83, wsX12_code, tyX12, rfl, by decide, by decide, rfl, rfl, hts, hi12, hts (.fieldLink RX12 374 "HillArmsModel" "pieceMany" "I") (by decide +kernel), tyX12_ok, nmX12, rfl, by decide +kernel⟩
  have r138 : ha_Fp s ([.ref (ad p0)] : List Value).toArray RX12 138 12 0 0 .int := ⟨RX12, TX12, 83, wsX12_code, tyX12, rfl, by decide, by decide, rfl, rfl, hts, hi12, hts (.fieldLink RX12 138 "HillArmsModel" "thrown" "I") (by decide +kernel), tyX12_ok, nmX12, rfl, by decide +kernel⟩
  have cw0 := cwV (R := (headSpec wsX12_code ({ frames := 2, cells := 0, slots := 0, locals := 47 } : Room)).room) 1 hts gX12_code_X12_fewestBy (rm := ({ frames := 1, cells := 0, slots := 0, locals := 24 } : Room)) (mc := 0) (ms := 0) rfl rfl rfl (by decide +kernel) ⟨Nat.le_of_ble_eq_true rfl, Nat.le_of_ble_eq_true rfl⟩
  have cw1 := cwV (R := (headSpec wsX12_code ({ frames := 2, cells := 0, slots := 0, locals := 47 } : Room)).room) 2 hts gX12_code_X12_begins (rm := ({ frames := 0, cells := 0, slots := 0, locals := 0 } : Room)) (mc := 0) (ms := 0) rfl rfl rfl (by decide +kernel) ⟨Nat.le_of_ble_eq_true rfl, Nat.le_of_ble_eq_true rfl⟩
  have cw2 := cwV (R := (headSpec wsX12_code ({ frames := 2, cells := 0, slots := 0, locals := 47 } : Room)).room) 0 hts gX12_code_X12_take (rm := ({ frames := 0, cells := 0, slots := 0, locals := 0 } : Room)) (mc := 0) (ms := 0) rfl rfl rfl (by decide +kernel) ⟨Nat.le_of_ble_eq_true rfl, Nat.le_of_ble_eq_true rfl⟩
  have cw3 := cwV (R := (headSpec wsX12_code ({ frames := 2, cells := 0, slots := 0, locals := 47 } : Room)).room) 2 hts gX12_code_X12_isTold (rm := ({ frames := 1, cells := 0, slots := 0, locals := 22 } : Room)) (mc := 0) (ms := 0) rfl rfl rfl (by decide +kernel) ⟨Nat.le_of_ble_eq_true rfl, Nat.le_of_ble_eq_true rfl⟩
  have hl := lv_entry ([.ref (ad p0)]) (n := 5) (Nat.le_of_ble_eq_true rfl)
  rw [lg_entry_eq]
  generalize (lg_sl ([.ref (ad p0)]) ++ List.replicate (5 - (lg_sl ([.ref (ad p0)])).length) Slot.unset).toArray = ls at hl ⊢
  have hl : lv_has ls 5 [(0, .ref (ad p0))] := hl
  refine (fun (K0 : ∀ (H : Heap) (locs : List Loc), va_P D vwCl (ha_wl cs ad mo_kd mo_ln N S) H → va_S (ha_A ad N) s.heap H locs → W p l e (headSpec wsX12_code ({ frames := 2, cells := 0, slots := 0, locals := 47 } : Room)).room s m ([.ref (ad p0)] : List Value).toArray below meth c H locs 0 0 (MQ below (va_Qi (fun (r : Int32) (_ : Unit) => r = out.1) (fun _ => ha_H D cs ad mo_kd mo_ln N out.2) (ha_A ad N)) ([.ref (ad p0)] : List Value).toArray s 0 0 (ha_A ad N)) (F0 m 0 ls [])) => K0 _ _ hP hS) ?_
  intro H locs hP hS
  have hf := ha_rt hf
  have J193 : ∀ (v2 : Int32) (S : ha_St) (H : Heap) (locs : List Loc) (ls : Array Slot), (f_X12_code_J193 p0 v2 S).bind some = some out → va_P D vwCl (ha_wl cs ad mo_kd mo_ln N S) H → va_D (ha_A ad N) (ha_wl cs ad mo_kd mo_ln N S) → va_S (ha_A ad N) s.heap H locs → lv_has ls 5 [(0, .ref (ad p0)), (2, .int v2)] → W p l e (headSpec wsX12_code ({ frames := 2, cells := 0, slots := 0, locals := 47 } : Room)).room s m ([.ref (ad p0)] : List Value).toArray below meth c H locs 0 0 (MQ below (va_Qi (fun (r : Int32) (_ : Unit) => r = out.1) (fun _ => ha_H D cs ad mo_kd mo_ln N out.2) (ha_A ad N)) ([.ref (ad p0)] : List Value).toArray s 0 0 (ha_A ad N)) (F0 m 193 ls []) := by
    intro v2 S H locs ls hf  hP hD hS hl
    unfold f_X12_code_J193 at hf
    refine lv_iload_n hx hb dX12_code_193 rfl (lv_at hl 1 rfl) ?_
    have he := Option.some.inj hf
    exact ha_reti hx hb hr hlocks hP hD hS dX12_code_194 (ha_e1 he) (ha_e2 he)
  have J47 : ∀ (v1 : Int32) (S : ha_St) (H : Heap) (locs : List Loc) (ls : Array Slot), (f_X12_code_J47 p0 v1 S).bind some = some out → va_P D vwCl (ha_wl cs ad mo_kd mo_ln N S) H → va_D (ha_A ad N) (ha_wl cs ad mo_kd mo_ln N S) → va_S (ha_A ad N) s.heap H locs → lv_has ls 5 [(0, .ref (ad p0)), (1, .int v1)] → W p l e (headSpec wsX12_code ({ frames := 2, cells := 0, slots := 0, locals := 47 } : Room)).room s m ([.ref (ad p0)] : List Value).toArray below meth c H locs 0 0 (MQ below (va_Qi (fun (r : Int32) (_ : Unit) => r = out.1) (fun _ => ha_H D cs ad mo_kd mo_ln N out.2) (ha_A ad N)) ([.ref (ad p0)] : List Value).toArray s 0 0 (ha_A ad N)) (F0 m 47 ls []) := by
    intro v1 S H locs ls hf  hP hD hS hl
    unfold f_X12_code_J47 at hf
    refine lv_aload_n hx hb dX12_code_47 rfl (lv_at hl 0 rfl) ?_
    refine lv_iload_n hx hb dX12_code_48 rfl (lv_at hl 1 rfl) ?_
    refine ha_puti hx hb hown hK hP hD hS r365 hN h0 dX12_code_49 (fun S1 H locs eS1 hP hD hS => ?_)
    have hf := ha_nms hf eS1
    refine lv_aload_n hx hb dX12_code_52 rfl (lv_at hl 0 rfl) ?_
    refine lv_sipush (v := 4095) hx hb dX12_code_53 (by decide) ?_
    obtain ⟨z2, wz2, hf⟩ := ha_bds hf
    refine ha_callVi (As := [.int 4095]) (rest := []) hZ ⟨hx, hb, hml, hown, hts⟩ hK hz hP hD hS (c_X12_fewestBy hZ hN h0 wz2) cw0 hN h0 (by decide) rfl rfl hl.1 rfl (Nat.le_of_ble_eq_true rfl) dX12_code_56 ⟨Nat.le_of_ble_eq_true rfl, Nat.le_of_ble_eq_true rfl⟩ (fun H locs hP hD hS => ?_)
    refine lv_istore_n (lv' := [(2, .int z2.1), (0, .ref (ad p0)), (1, .int v1)]) hx hb dX12_code_59 rfl hl (by decide) rfl (fun ls hl => ?_)
    refine lv_aload_n hx hb dX12_code_60 rfl (lv_at hl 1 rfl) ?_
    refine lv_iconst (v := 0) hx hb dX12_code_61 (by decide) ?_
    refine ha_puti hx hb hown hK hP hD hS r374 hN h0 dX12_code_62 (fun S3 H locs eS3 hP hD hS => ?_)
    have hf := ha_nms hf eS3
    refine lv_iconst (v := 0) hx hb dX12_code_65 (by decide) ?_
    refine lv_istore_n (lv' := [(3, .int 0), (2, .int z2.1), (0, .ref (ad p0)), (1, .int v1)]) hx hb dX12_code_66 rfl hl (by decide) rfl (fun ls hl => ?_)
    have key29 : ∀ (K : (Int32 × ha_St) → Option (Int32 × ha_St)), (∀ (v2 : Int32) (S : ha_St) (H : Heap) (locs : List Loc) (ls : Array Slot), K (v2, S) = some out → va_P D vwCl (ha_wl cs ad mo_kd mo_ln N S) H → va_D (ha_A ad N) (ha_wl cs ad mo_kd mo_ln N S) → va_S (ha_A ad N) s.heap H locs → lv_has ls 5 [(0, .ref (ad p0)), (2, .int v2)] → W p l e (headSpec wsX12_code ({ frames := 2, cells := 0, slots := 0, locals := 47 } : Room)).room s m ([.ref (ad p0)] : List Value).toArray below meth c H locs 0 0 (MQ below (va_Qi (fun (r : Int32) (_ : Unit) => r = out.1) (fun _ => ha_H D cs ad mo_kd mo_ln N out.2) (ha_A ad N)) ([.ref (ad p0)] : List Value).toArray s 0 0 (ha_A ad N)) (F0 m 193 ls [])) → ∀ (n : Nat) (v1 : Int32) (v2 : Int32) (v3 : Int32) (S : ha_St) (H : Heap) (locs : List Loc) (ls : Array Slot), (f_X12_code_L67i p0 n (v1, v2, v3, S)).bind K = some out → va_P D vwCl (ha_wl cs ad mo_kd mo_ln N S) H → va_D (ha_A ad N) (ha_wl cs ad mo_kd mo_ln N S) → va_S (ha_A ad N) s.heap H locs → lv_has ls 5 [(0, .ref (ad p0)), (1, .int v1), (2, .int v2), (3, .int v3)] → W p l e (headSpec wsX12_code ({ frames := 2, cells := 0, slots := 0, locals := 47 } : Room)).room s m ([.ref (ad p0)] : List Value).toArray below meth c H locs 0 0 (MQ below (va_Qi (fun (r : Int32) (_ : Unit) => r = out.1) (fun _ => ha_H D cs ad mo_kd mo_ln N out.2) (ha_A ad N)) ([.ref (ad p0)] : List Value).toArray s 0 0 (ha_A ad N)) (F0 m 67 ls []) := by
      intro K hk n
      induction n with
      | zero =>
        intro v1 v2 v3 S H locs ls hf
        exact absurd (show (none : Option (Int32 × ha_St)) = some out from hf) (fun h => by cases h)
      | succ n ih =>
        intro v1 v2 v3 S H locs ls hf  hP hD hS hl
        have J188 : ∀ (v1 : Int32) (v2 : Int32) (k0 : Int32) (k1 : Int32) (S : ha_St) (H : Heap) (locs : List Loc) (ls : Array Slot), (f_X12_code_L67_J188 p0 (f_X12_code_L67i p0 n) v1 v2 k0 k1 S).bind K = some out → va_P D vwCl (ha_wl cs ad mo_kd mo_ln N S) H → va_D (ha_A ad N) (ha_wl cs ad mo_kd mo_ln N S) → va_S (ha_A ad N) s.heap H locs → lv_has ls 5 [(0, .ref (ad p0)), (1, .int v1), (2, .int v2)] → W p l e (headSpec wsX12_code ({ frames := 2, cells := 0, slots := 0, locals := 47 } : Room)).room s m ([.ref (ad p0)] : List Value).toArray below meth c H locs 0 0 (MQ below (va_Qi (fun (r : Int32) (_ : Unit) => r = out.1) (fun _ => ha_H D cs ad mo_kd mo_ln N out.2) (ha_A ad N)) ([.ref (ad p0)] : List Value).toArray s 0 0 (ha_A ad N)) (F0 m 188 ls [.int k1, .int k0]) := by
          intro v1 v2 k0 k1 S H locs ls hf  hP hD hS hl
          unfold f_X12_code_L67_J188 at hf
          refine lv_iadd hx hb dX12_code_188 ?_
          refine lv_topi (fun x4 ex4 => ?_)
          have hf := ha_nms hf ex4
          refine lv_istore_n (lv' := [(3, .int x4), (0, .ref (ad p0)), (1, .int v1), (2, .int v2)]) hx hb dX12_code_189 rfl hl (by decide) rfl (fun ls hl => ?_)
          refine lv_goto (tgt := 67) hx hb dX12_code_190 (by decide) ?_
          exact ih v1 v2 x4 S H locs ls hf  hP hD hS (lv_sub hl [1, 2, 3, 0] rfl)
        have J156 : ∀ (v1 : Int32) (v2 : Int32) (v3 : Int32) (v4 : Int32) (k0 : Nat) (k1 : Int32) (k2 : Int32) (S : ha_St) (H : Heap) (locs : List Loc) (ls : Array Slot), (f_X12_code_L67_J156 p0 (f_X12_code_L67i p0 n) v1 v2 v3 v4 k0 k1 k2 S).bind K = some out → mo_kd k0 = 100 → va_P D vwCl (ha_wl cs ad mo_kd mo_ln N S) H → va_D (ha_A ad N) (ha_wl cs ad mo_kd mo_ln N S) → va_S (ha_A ad N) s.heap H locs → lv_has ls 5 [(0, .ref (ad p0)), (1, .int v1), (2, .int v2), (3, .int v3), (4, .int v4)] → W p l e (headSpec wsX12_code ({ frames := 2, cells := 0, slots := 0, locals := 47 } : Room)).room s m ([.ref (ad p0)] : List Value).toArray below meth c H locs 0 0 (MQ below (va_Qi (fun (r : Int32) (_ : Unit) => r = out.1) (fun _ => ha_H D cs ad mo_kd mo_ln N out.2) (ha_A ad N)) ([.ref (ad p0)] : List Value).toArray s 0 0 (ha_A ad N)) (F0 m 156 ls [.int k2, .int k1, .ref (ad k0)]) := by
          intro v1 v2 v3 v4 k0 k1 k2 S H locs ls hf hk0 hP hD hS hl
          unfold f_X12_code_L67_J156 at hf
          obtain ⟨g5, hf⟩ := ha_gds hf
          refine ha_iast hx hb hK hP hD hS hN hk0 g5 dX12_code_156 (fun S6 H locs eS6 hP hD hS => ?_)
          have hf := ha_nms hf eS6
          refine lv_aload_n hx hb dX12_code_157 rfl (lv_at hl 0 rfl) ?_
          refine lv_dup hx hb dX12_code_158 rfl ?_
          refine ha_geti hx hb hown hK hP q374 hN h0 dX12_code_159 ?_
          refine lv_iconst (v := 1) hx hb dX12_code_162 (by decide) ?_
          refine lv_iadd hx hb dX12_code_163 ?_
          refine ha_puti hx hb hown hK hP hD hS r374 hN h0 dX12_code_164 (fun S7 H locs eS7 hP hD hS => ?_)
          have hf := ha_nms hf eS7
          refine lv_iload_n hx hb dX12_code_167 rfl (lv_at hl 3 rfl) ?_
          refine lv_iload hx hb dX12_code_168 (lv_at hl 4 rfl) ?_
          refine lv_aload_n hx hb dX12_code_170 rfl (lv_at hl 0 rfl) ?_
          refine ha_geti hx hb hown hK hP q359 hN h0 dX12_code_171 ?_
          refine lv_icmp_ge (tgt := 187) hx hb dX12_code_174 (by decide) (fun c8 => ?_) (fun c8 => ?_)
          · have hf := ha_it hf c8
            refine lv_iconst (v := 1) hx hb dX12_code_187 (by decide) ?_
            exact J188 v1 v2 v3 1 S7 H locs ls hf  hP hD hS (lv_sub hl [0, 1, 2] rfl)
          · have hf := ha_if hf c8
            refine lv_aload_n hx hb dX12_code_177 rfl (lv_at hl 0 rfl) ?_
            obtain ⟨r9, wr9, hf⟩ := ha_bds hf
            obtain ⟨wr9, hr9⟩ := ha_rf_some wr9
            refine ha_getr hx hb hown hK hP q99 hN h0 wr9 dX12_code_178 ?_
            refine lv_iload hx hb dX12_code_181 (lv_at hl 4 rfl) ?_
            obtain ⟨g10, hf⟩ := ha_gds hf
            refine ha_iald hx hb hK hP hN hr9 g10 dX12_code_183 ?_
            refine lv_goto (tgt := 188) hx hb dX12_code_184 (by decide) ?_
            exact J188 v1 v2 v3 ((ha_gA S7 r9 (v4 : Int32).toNatClampNeg)) S7 H locs ls hf  hP hD hS (lv_sub hl [0, 1, 2] rfl)
        have J125 : ∀ (v1 : Int32) (v2 : Int32) (v3 : Int32) (v4 : Int32) (S : ha_St) (H : Heap) (locs : List Loc) (ls : Array Slot), (f_X12_code_L67_J125 p0 (f_X12_code_L67i p0 n) v1 v2 v3 v4 S).bind K = some out → va_P D vwCl (ha_wl cs ad mo_kd mo_ln N S) H → va_D (ha_A ad N) (ha_wl cs ad mo_kd mo_ln N S) → va_S (ha_A ad N) s.heap H locs → lv_has ls 5 [(0, .ref (ad p0)), (1, .int v1), (2, .int v2), (3, .int v3), (4, .int v4)] → W p l e (headSpec wsX12_code ({ frames := 2, cells := 0, slots := 0, locals := 47 } : Room)).room s m ([.ref (ad p0)] : List Value).toArray below meth c H locs 0 0 (MQ below (va_Qi (fun (r : Int32) (_ : Unit) => r = out.1) (fun _ => ha_H D cs ad mo_kd mo_ln N out.2) (ha_A ad N)) ([.ref (ad p0)] : List Value).toArray s 0 0 (ha_A ad N)) (F0 m 125 ls []) := by
          intro v1 v2 v3 v4 S H locs ls hf  hP hD hS hl
          unfold f_X12_code_L67_J125 at hf
          refine lv_aload_n hx hb dX12_code_125 rfl (lv_at hl 0 rfl) ?_
          obtain ⟨r11, wr11, hf⟩ := ha_bds hf
          obtain ⟨wr11, hr11⟩ := ha_rf_some wr11
          refine ha_getr hx hb hown hK hP q114 hN h0 wr11 dX12_code_126 ?_
          refine lv_aload_n hx hb dX12_code_129 rfl (lv_at hl 0 rfl) ?_
          refine ha_geti hx hb hown hK hP q374 hN h0 dX12_code_130 ?_
          refine lv_iload hx hb dX12_code_133 (lv_at hl 4 rfl) ?_
          refine lv_aload_n hx hb dX12_code_135 rfl (lv_at hl 0 rfl) ?_
          refine ha_geti hx hb hown hK hP q359 hN h0 dX12_code_136 ?_
          refine lv_icmp_ge (tgt := 150) hx hb dX12_code_139 (by decide) (fun c12 => ?_) (fun c12 => ?_)
          · have hf := ha_it hf c12
            refine lv_aload_n hx hb dX12_code_150 rfl (lv_at hl 0 rfl) ?_
            obtain ⟨r13, wr13, hf⟩ := ha_bds hf
            obtain ⟨wr13, hr13⟩ := ha_rf_some wr13
            refine ha_getr hx hb hown hK hP q108 hN h0 wr13 dX12_code_151 ?_
            refine lv_iload_n hx hb dX12_code_154 rfl (lv_at hl 3 rfl) ?_
            obtain ⟨g14, hf⟩ := ha_gds hf
            refine ha_iald hx hb hK hP hN hr13 g14 dX12_code_155 ?_
            exact J156 v1 v2 v3 v4 r11 ((ha_gI S p0 73)) ((ha_gA S r13 (v3 : Int32).toNatClampNeg)) S H locs ls hf hr11 hP hD hS (lv_sub hl [0, 1, 2, 3, 4] rfl)
          · have hf := ha_if hf c12
            refine lv_bipush (v := 100) hx hb dX12_code_142 (by decide) ?_
            refine lv_iload hx hb dX12_code_144 (lv_at hl 4 rfl) ?_
            refine lv_iadd hx hb dX12_code_146 ?_
            refine lv_goto (tgt := 156) hx hb dX12_code_147 (by decide) ?_
            exact J156 v1 v2 v3 v4 r11 ((ha_gI S p0 73)) (((100 : Int32) + v4)) S H locs ls hf hr11 hP hD hS (lv_sub hl [0, 1, 2, 3, 4] rfl)
        have hf : (f_X12_code_L67 p0 (f_X12_code_L67i p0 n) v1 v2 v3 S).bind K = some out := hf
        unfold f_X12_code_L67 at hf
        refine lv_iload_n hx hb dX12_code_67 rfl (lv_at hl 3 rfl) ?_
        refine lv_iload_n hx hb dX12_code_68 rfl (lv_at hl 1 rfl) ?_
        refine lv_icmp_ge (tgt := 193) hx hb dX12_code_69 (by decide) (fun c15 => ?_) (fun c15 => ?_)
        · have hf := ha_it hf c15
          exact hk v2 S H locs ls hf  hP hD hS (lv_sub hl [0, 2] rfl)
        · have hf := ha_if hf c15
          refine lv_iconst (v := 0) hx hb dX12_code_72 (by decide) ?_
          refine lv_istore (lv' := [(4, .int 0), (0, .ref (ad p0)), (1, .int v1), (2, .int v2), (3, .int v3)]) hx hb dX12_code_73 hl (by decide) rfl (fun ls hl => ?_)
          have key27 : ∀ (K : (Int32 × Int32 × Int32 × Int32 × ha_St) → Option (Int32 × ha_St)), (∀ (v1 : Int32) (v2 : Int32) (v3 : Int32) (v4 : Int32) (S : ha_St) (H : Heap) (locs : List Loc) (ls : Array Slot), K (v1, v2, v3, v4, S) = some out → va_P D vwCl (ha_wl cs ad mo_kd mo_ln N S) H → va_D (ha_A ad N) (ha_wl cs ad mo_kd mo_ln N S) → va_S (ha_A ad N) s.heap H locs → lv_has ls 5 [(0, .ref (ad p0)), (1, .int v1), (2, .int v2), (3, .int v3), (4, .int v4)] → W p l e (headSpec wsX12_code ({ frames := 2, cells := 0, slots := 0, locals := 47 } : Room)).room s m ([.ref (ad p0)] : List Value).toArray below meth c H locs 0 0 (MQ below (va_Qi (fun (r : Int32) (_ : Unit) => r = out.1) (fun _ => ha_H D cs ad mo_kd mo_ln N out.2) (ha_A ad N)) ([.ref (ad p0)] : List Value).toArray s 0 0 (ha_A ad N)) (F0 m 125 ls [])) → ∀ (n : Nat) (v1 : Int32) (v2 : Int32) (v3 : Int32) (v4 : Int32) (S : ha_St) (H : Heap) (locs : List Loc) (ls : Array Slot), (f_X12_code_L75i p0 n (v1, v2, v3, v4, S)).bind K = some out → va_P D vwCl (ha_wl cs ad mo_kd mo_ln N S) H → va_D (ha_A ad N) (ha_wl cs ad mo_kd mo_ln N S) → va_S (ha_A ad N) s.heap H locs → lv_has ls 5 [(0, .ref (ad p0)), (1, .int v1), (2, .int v2), (3, .int v3), (4, .int v4)] → W p l e (headSpec wsX12_code ({ frames := 2, cells := 0, slots := 0, locals := 47 } : Room)).room s m ([.ref (ad p0)] : List Value).toArray below meth c H locs 0 0 (MQ below (va_Qi (fun (r : Int32) (_ : Unit) => r = out.1) (fun _ => ha_H D cs ad mo_kd mo_ln N out.2) (ha_A ad N)) ([.ref (ad p0)] : List Value).toArray s 0 0 (ha_A ad N)) (F0 m 75 ls []) := by
            intro K hk n
            induction n with
            | zero =>
              intro v1 v2 v3 v4 S H locs ls hf
              exact absurd (show (none : Option (Int32 × ha_St)) = some out from hf) (fun h => by cases h)
            | succ n ih =>
              intro v1 v2 v3 v4 S H locs ls hf  hP hD hS hl
              have J119 : ∀ (v1 : Int32) (v2 : Int32) (v3 : Int32) (v4 : Int32) (S : ha_St) (H : Heap) (locs : List Loc) (ls : Array Slot), (f_X12_code_L75_J119 p0 (f_X12_code_L75i p0 n) v1 v2 v3 v4 S).bind K = some out → va_P D vwCl (ha_wl cs ad mo_kd mo_ln N S) H → va_D (ha_A ad N) (ha_wl cs ad mo_kd mo_ln N S) → va_S (ha_A ad N) s.heap H locs → lv_has ls 5 [(0, .ref (ad p0)), (1, .int v1), (2, .int v2), (3, .int v3), (4, .int v4)] → W p l e (headSpec wsX12_code ({ frames := 2, cells := 0, slots := 0, locals := 47 } : Room)).room s m ([.ref (ad p0)] : List Value).toArray below meth c H locs 0 0 (MQ below (va_Qi (fun (r : Int32) (_ : Unit) => r = out.1) (fun _ => ha_H D cs ad mo_kd mo_ln N out.2) (ha_A ad N)) ([.ref (ad p0)] : List Value).toArray s 0 0 (ha_A ad N)) (F0 m 119 ls []) := by
                intro v1 v2 v3 v4 S H locs ls hf  hP hD hS hl
                unfold f_X12_code_L75_J119 at hf
                obtain ⟨x16, ex16⟩ : ∃ y : Int32, y = (v4 : Int32) + 1 := ⟨_, rfl⟩
                have hf := ha_nms hf ex16
                refine lv_iinc (v := x16) (lv' := [(4, .int x16), (0, .ref (ad p0)), (1, .int v1), (2, .int v2), (3, .int v3)]) hx hb dX12_code_119 hl (k := 4) rfl (by rw [ex16]; rfl) (by decide) rfl (fun ls hl => ?_)
                refine lv_goto (tgt := 75) hx hb dX12_code_122 (by decide) ?_
                exact ih v1 v2 v3 x16 S H locs ls hf  hP hD hS (lv_sub hl [1, 2, 3, 4, 0] rfl)
              have hf : (f_X12_code_L75 p0 (f_X12_code_L75i p0 n) v1 v2 v3 v4 S).bind K = some out := hf
              unfold f_X12_code_L75 at hf
              refine lv_iload hx hb dX12_code_75 (lv_at hl 4 rfl) ?_
              refine lv_aload_n hx hb dX12_code_77 rfl (lv_at hl 0 rfl) ?_
              refine ha_geti hx hb hown hK hP q359 hN h0 dX12_code_78 ?_
              refine lv_icmp_ge (tgt := 125) hx hb dX12_code_81 (by decide) (fun c17 => ?_) (fun c17 => ?_)
              · have hf := ha_it hf c17
                exact hk v1 v2 v3 v4 S H locs ls hf  hP hD hS (lv_sub hl [0, 1, 2, 3, 4] rfl)
              · have hf := ha_if hf c17
                refine lv_aload_n hx hb dX12_code_84 rfl (lv_at hl 0 rfl) ?_
                refine lv_iload hx hb dX12_code_85 (lv_at hl 4 rfl) ?_
                refine lv_iload_n hx hb dX12_code_87 rfl (lv_at hl 3 rfl) ?_
                obtain ⟨z18, wz18, hf⟩ := ha_bds hf
                refine ha_callVi (As := [.int v4, .int v3]) (rest := []) hZ ⟨hx, hb, hml, hown, hts⟩ hK hz hP hD hS (c_X12_begins hZ hN h0 wz18) cw1 hN h0 (by decide) rfl rfl hl.1 rfl (Nat.le_of_ble_eq_true rfl) dX12_code_88 ⟨Nat.le_of_ble_eq_true rfl, Nat.le_of_ble_eq_true rfl⟩ (fun H locs hP hD hS => ?_)
                refine lv_if_eq (tgt := 119) hx hb dX12_code_91 (by decide) (fun c19 => ?_) (fun c19 => ?_)
                · have hf := ha_it hf c19
                  exact J119 v1 v2 v3 v4 z18.2 H locs ls hf  hP hD hS (lv_sub hl [0, 1, 2, 3, 4] rfl)
                · have hf := ha_if hf c19
                  refine lv_aload_n hx hb dX12_code_94 rfl (lv_at hl 0 rfl) ?_
                  obtain ⟨r20, wr20, hf⟩ := ha_bds hf
                  obtain ⟨wr20, hr20⟩ := ha_rf_some wr20
                  refine ha_getr hx hb hown hK hP q111 hN h0 wr20 dX12_code_95 ?_
                  refine lv_iload_n hx hb dX12_code_98 rfl (lv_at hl 3 rfl) ?_
                  refine lv_aload_n hx hb dX12_code_99 rfl (lv_at hl 0 rfl) ?_
                  obtain ⟨r21, wr21, hf⟩ := ha_bds hf
                  obtain ⟨wr21, hr21⟩ := ha_rf_some wr21
                  refine ha_getr hx hb hown hK hP q99 hN h0 wr21 dX12_code_100 ?_
                  refine lv_iload hx hb dX12_code_103 (lv_at hl 4 rfl) ?_
                  obtain ⟨g22, hf⟩ := ha_gds hf
                  refine ha_iald hx hb hK hP hN hr21 g22 dX12_code_105 ?_
                  refine lv_iadd hx hb dX12_code_106 ?_
                  obtain ⟨g23, hf⟩ := ha_gds hf
                  refine ha_iald hx hb hK hP hN hr20 g23 dX12_code_107 ?_
                  refine lv_iconst (v := 2) hx hb dX12_code_108 (by decide) ?_
                  refine lv_iadd hx hb dX12_code_109 ?_
                  refine lv_aload_n hx hb dX12_code_110 rfl (lv_at hl 0 rfl) ?_
                  obtain ⟨r24, wr24, hf⟩ := ha_bds hf
                  obtain ⟨wr24, hr24⟩ := ha_rf_some wr24
                  refine ha_getr hx hb hown hK hP q111 hN h0 wr24 dX12_code_111 ?_
                  refine lv_iload_n hx hb dX12_code_114 rfl (lv_at hl 3 rfl) ?_
                  obtain ⟨g25, hf⟩ := ha_gds hf
                  refine ha_iald hx hb hK hP hN hr24 g25 dX12_code_115 ?_
                  refine lv_icmp_eq (tgt := 125) hx hb dX12_code_116 (by decide) (fun c26 => ?_) (fun c26 => ?_)
                  · have hf := ha_it hf c26
                    exact hk v1 v2 v3 v4 z18.2 H locs ls hf  hP hD hS (lv_sub hl [0, 1, 2, 3, 4] rfl)
                  · have hf := ha_if hf c26
                    exact J119 v1 v2 v3 v4 z18.2 H locs ls hf  hP hD hS (lv_sub hl [0, 1, 2, 3, 4] rfl)
          refine key27 _ (fun v1 v2 v3 v4 S H locs ls hf  hP hD hS hl => ?_) ha_fu v1 v2 v3 0 S H locs ls (ha_as hf)  hP hD hS (lv_sub hl [1, 2, 3, 4, 0] rfl)
          have hf : (f_X12_code_L67_J125 p0 (f_X12_code_L67i p0 n) v1 v2 v3 v4 S).bind K = some out := hf
          exact J125 v1 v2 v3 v4 S H locs ls hf  hP hD hS (lv_sub hl [0, 1, 2, 3, 4] rfl)
    refine key29 _ (fun v2 S H locs ls hf  hP hD hS hl => ?_) ha_fu v1 z2.1 0 S3 H locs ls (ha_as hf)  hP hD hS (lv_sub hl [2, 3, 1, 0] rfl)
    have hf : (f_X12_code_J193 p0 v2 S).bind some = some out := hf
    exact J193 v2 S H locs ls hf  hP hD hS (lv_sub hl [0, 1] rfl)
  unfold f_X12_code at hf
  refine lv_aload_n hx hb dX12_code_0 rfl (lv_at hl 0 rfl) ?_
  refine lv_iconst (v := 0) hx hb dX12_code_1 (by decide) ?_
  refine ha_puti hx hb hown hK hP hD hS r138 hN h0 dX12_code_2 (fun S31 H locs eS31 hP hD hS => ?_)
  have hf := ha_nms hf eS31
  refine lv_aload_n hx hb dX12_code_5 rfl (lv_at hl 0 rfl) ?_
  obtain ⟨z32, wz32, hf⟩ := ha_bds hf
  refine ha_callVi (As := []) (rest := []) hZ ⟨hx, hb, hml, hown, hts⟩ hK hz hP hD hS (c_X12_take hZ hN h0 wz32) cw2 hN h0 (by decide) rfl rfl hl.1 rfl (Nat.le_of_ble_eq_true rfl) dX12_code_6 ⟨Nat.le_of_ble_eq_true rfl, Nat.le_of_ble_eq_true rfl⟩ (fun H locs hP hD hS => ?_)
  refine lv_istore_n (lv' := [(1, .int z32.1), (0, .ref (ad p0))]) hx hb dX12_code_9 rfl hl (by decide) rfl (fun ls hl => ?_)
  refine lv_aload_n hx hb dX12_code_10 rfl (lv_at hl 1 rfl) ?_
  refine lv_iload_n hx hb dX12_code_11 rfl (lv_at hl 0 rfl) ?_
  refine lv_bipush (v := 60) hx hb dX12_code_12 (by decide) ?_
  obtain ⟨z33, wz33, hf⟩ := ha_bds hf
  refine ha_callVi (As := [.int z32.1, .int 60]) (rest := []) hZ ⟨hx, hb, hml, hown, hts⟩ hK hz hP hD hS (c_X12_isTold hZ hN h0 wz33) cw3 hN h0 (by decide) rfl rfl hl.1 rfl (Nat.le_of_ble_eq_true rfl) dX12_code_14 ⟨Nat.le_of_ble_eq_true rfl, Nat.le_of_ble_eq_true rfl⟩ (fun H locs hP hD hS => ?_)
  refine lv_if_ne (tgt := 22) hx hb dX12_code_17 (by decide) (fun c34 => ?_) (fun c34 => ?_)
  · have hf := ha_it hf c34
    refine lv_iconst (v := 0) hx hb dX12_code_22 (by decide) ?_
    refine lv_istore_n (lv' := [(2, .int 0), (1, .int z32.1), (0, .ref (ad p0))]) hx hb dX12_code_23 rfl hl (by decide) rfl (fun ls hl => ?_)
    have key42 : ∀ (K : (Int32 × ha_St) → Option (Int32 × ha_St)), (∀ (v1 : Int32) (S : ha_St) (H : Heap) (locs : List Loc) (ls : Array Slot), K (v1, S) = some out → va_P D vwCl (ha_wl cs ad mo_kd mo_ln N S) H → va_D (ha_A ad N) (ha_wl cs ad mo_kd mo_ln N S) → va_S (ha_A ad N) s.heap H locs → lv_has ls 5 [(0, .ref (ad p0)), (1, .int v1)] → W p l e (headSpec wsX12_code ({ frames := 2, cells := 0, slots := 0, locals := 47 } : Room)).room s m ([.ref (ad p0)] : List Value).toArray below meth c H locs 0 0 (MQ below (va_Qi (fun (r : Int32) (_ : Unit) => r = out.1) (fun _ => ha_H D cs ad mo_kd mo_ln N out.2) (ha_A ad N)) ([.ref (ad p0)] : List Value).toArray s 0 0 (ha_A ad N)) (F0 m 47 ls [])) → ∀ (n : Nat) (v1 : Int32) (v2 : Int32) (S : ha_St) (H : Heap) (locs : List Loc) (ls : Array Slot), (f_X12_code_L24i p0 n (v1, v2, S)).bind K = some out → va_P D vwCl (ha_wl cs ad mo_kd mo_ln N S) H → va_D (ha_A ad N) (ha_wl cs ad mo_kd mo_ln N S) → va_S (ha_A ad N) s.heap H locs → lv_has ls 5 [(0, .ref (ad p0)), (1, .int v1), (2, .int v2)] → W p l e (headSpec wsX12_code ({ frames := 2, cells := 0, slots := 0, locals := 47 } : Room)).room s m ([.ref (ad p0)] : List Value).toArray below meth c H locs 0 0 (MQ below (va_Qi (fun (r : Int32) (_ : Unit) => r = out.1) (fun _ => ha_H D cs ad mo_kd mo_ln N out.2) (ha_A ad N)) ([.ref (ad p0)] : List Value).toArray s 0 0 (ha_A ad N)) (F0 m 24 ls []) := by
      intro K hk n
      induction n with
      | zero =>
        intro v1 v2 S H locs ls hf
        exact absurd (show (none : Option (Int32 × ha_St)) = some out from hf) (fun h => by cases h)
      | succ n ih =>
        intro v1 v2 S H locs ls hf  hP hD hS hl
        have hf : (f_X12_code_L24 p0 (f_X12_code_L24i p0 n) v1 v2 S).bind K = some out := hf
        unfold f_X12_code_L24 at hf
        refine lv_iload_n hx hb dX12_code_24 rfl (lv_at hl 2 rfl) ?_
        refine lv_iload_n hx hb dX12_code_25 rfl (lv_at hl 1 rfl) ?_
        refine lv_icmp_ge (tgt := 47) hx hb dX12_code_26 (by decide) (fun c35 => ?_) (fun c35 => ?_)
        · have hf := ha_it hf c35
          exact hk v1 S H locs ls hf  hP hD hS (lv_sub hl [0, 1] rfl)
        · have hf := ha_if hf c35
          refine lv_aload_n hx hb dX12_code_29 rfl (lv_at hl 0 rfl) ?_
          obtain ⟨r36, wr36, hf⟩ := ha_bds hf
          obtain ⟨wr36, hr36⟩ := ha_rf_some wr36
          refine ha_getr hx hb hown hK hP q108 hN h0 wr36 dX12_code_30 ?_
          refine lv_iload_n hx hb dX12_code_33 rfl (lv_at hl 2 rfl) ?_
          refine lv_aload_n hx hb dX12_code_34 rfl (lv_at hl 0 rfl) ?_
          obtain ⟨r37, wr37, hf⟩ := ha_bds hf
          obtain ⟨wr37, hr37⟩ := ha_rf_some wr37
          refine ha_getr hx hb hown hK hP q7 hN h0 wr37 dX12_code_35 ?_
          refine lv_iload_n hx hb dX12_code_38 rfl (lv_at hl 2 rfl) ?_
          obtain ⟨g38, hf⟩ := ha_gds hf
          refine ha_iald hx hb hK hP hN hr37 g38 dX12_code_39 ?_
          obtain ⟨g39, hf⟩ := ha_gds hf
          refine ha_iast hx hb hK hP hD hS hN hr36 g39 dX12_code_40 (fun S40 H locs eS40 hP hD hS => ?_)
          have hf := ha_nms hf eS40
          obtain ⟨x41, ex41⟩ : ∃ y : Int32, y = (v2 : Int32) + 1 := ⟨_, rfl⟩
          have hf := ha_nms hf ex41
          refine lv_iinc (v := x41) (lv' := [(2, .int x41), (0, .ref (ad p0)), (1, .int v1)]) hx hb dX12_code_41 hl (k := 2) rfl (by rw [ex41]; rfl) (by decide) rfl (fun ls hl => ?_)
          refine lv_goto (tgt := 24) hx hb dX12_code_44 (by decide) ?_
          exact ih v1 x41 S40 H locs ls hf  hP hD hS (lv_sub hl [1, 2, 0] rfl)
    refine key42 _ (fun v1 S H locs ls hf  hP hD hS hl => ?_) ha_fu z32.1 0 z33.2 H locs ls (ha_as hf)  hP hD hS (lv_sub hl [2, 1, 0] rfl)
    have hf : (f_X12_code_J47 p0 v1 S).bind some = some out := hf
    exact J47 v1 S H locs ls hf  hP hD hS (lv_sub hl [0, 1] rfl)
  · have hf := ha_if hf (fun q => q c34)
    refine lv_iconst (v := (-1)) hx hb dX12_code_20 (by decide) ?_
    have he := Option.some.inj hf
    exact ha_reti hx hb hr hlocks hP hD hS dX12_code_21 (ha_e1 he) (ha_e2 he)

set_option maxHeartbeats 4000000 in
set_option maxRecDepth 100000 in
theorem c_X12_piece {l : Launch} {D : va_G} {cs : Nat → ClassId} {ad : Nat → Nat} {N : List Nat} {Z : State → Prop} (hZ : ha_Zok (ha_A ad N) Z) (hN : ∀ x, mo_kd x < 999 → x ∈ N) {p0 : Nat} {p1 : Int32} {S : ha_St} {out : Int32 × ha_St} (h0 : mo_kd p0 = 12) (hf : f_X12_piece p0 p1 S = some out) : ha_Ci l D cs ad mo_kd mo_ln N Z yX12_piece wsX12_piece ({ frames := 0, cells := 0, slots := 0, locals := 0 } : Room) [.ref (ad p0), .int p1] S out.1 out.2 := by
  refine Met.ofW (cc := cX12_piece) (maxL := 2) (ret := (some .int)) (by decide +kernel) rfl ?_
  intro p e s m args below meth c s₁ B hml hv
  obtain ⟨rfl, hP, hD, hK, hz⟩ := hv
  have hx := B.exec
  have hb := B.bytes
  have hr := B.returns
  have hts := atoms_spec (ws := wsX12_piece) B.pre
  have hown : s.vm.findClass RX12 = some m.cls := findClass_of_methodNamed B.named
  have hlocks := B.notSynchronized
  have hS : va_S (ha_A ad N) s.heap s.heap [] := va_S.rf
  have hi12 : ∀ w ∈ wsX120, w ∈ wsX12_piece := fun w h => List.mem_cons_of_mem _ (List.mem_append_right _ h)
  have q374 : ha_Fk s ([.ref (ad p0), .int p1] : List Value).toArray RX12 374 12 73 0 := ⟨RX12, TX12, 83, wsX12_piece, rfl, by decide, by decide, rfl, rfl, hts, hi12, hts (.fieldLink RX12 374 "HillArmsModel" "pieceMany" "I") (by decide +kernel)⟩
  have q114 : ha_Fk s ([.ref (ad p0), .int p1] : List Value).toArray RX12 114 12 71 1 := ⟨RX12, TX12, 83, wsX12_piece, rfl, by decide, by decide, rfl, rfl, hts, hi12, hts (.fieldLink RX12 114 "HillArmsModel" "pieces" "[I") (by decide +kernel)⟩
  have r138 : ha_Fp s ([.ref (ad p0), .int p1] : List Value).toArray RX12 138 12 0 0 .int := ⟨RX12, TX12, 83, wsX12_piece, tyX12, rfl, by decide, by decide, rfl, rfl, hts, hi12, hts (.fieldLink RX12 138 "HillArmsModel" "thrown" "I") (by decide +kernel), tyX12_ok, nmX12, rfl, by decide +kernel⟩
  have hl := lv_entry ([.ref (ad p0), .int p1]) (n := 2) (Nat.le_of_ble_eq_true rfl)
  rw [lg_entry_eq]
  generalize (lg_sl ([.ref (ad p0), .int p1]) ++ List.replicate (2 - (lg_sl ([.ref (ad p0), .int p1])).length) Slot.unset).toArray = ls at hl ⊢
  have hl : lv_has ls 2 [(0, .ref (ad p0)), (1, .int p1)] := hl
  refine (fun (K0 : ∀ (H : Heap) (locs : List Loc), va_P D vwCl (ha_wl cs ad mo_kd mo_ln N S) H → va_S (ha_A ad N) s.heap H locs → W p l e (headSpec wsX12_piece ({ frames := 0, cells := 0, slots := 0, locals := 0 } : Room)).room s m ([.ref (ad p0), .int p1] : List Value).toArray below meth c H locs 0 0 (MQ below (va_Qi (fun (r : Int32) (_ : Unit) => r = out.1) (fun _ => ha_H D cs ad mo_kd mo_ln N out.2) (ha_A ad N)) ([.ref (ad p0), .int p1] : List Value).toArray s 0 0 (ha_A ad N)) (F0 m 0 ls [])) => K0 _ _ hP hS) ?_
  intro H locs hP hS
  have hf := ha_rt hf
  have J27 : ∀ (k0 : Int32) (S : ha_St) (H : Heap) (locs : List Loc) (ls : Array Slot), (f_X12_piece_J27 p0 p1 k0 S).bind some = some out → va_P D vwCl (ha_wl cs ad mo_kd mo_ln N S) H → va_D (ha_A ad N) (ha_wl cs ad mo_kd mo_ln N S) → va_S (ha_A ad N) s.heap H locs → lv_has ls 2 [(0, .ref (ad p0)), (1, .int p1)] → W p l e (headSpec wsX12_piece ({ frames := 0, cells := 0, slots := 0, locals := 0 } : Room)).room s m ([.ref (ad p0), .int p1] : List Value).toArray below meth c H locs 0 0 (MQ below (va_Qi (fun (r : Int32) (_ : Unit) => r = out.1) (fun _ => ha_H D cs ad mo_kd mo_ln N out.2) (ha_A ad N)) ([.ref (ad p0), .int p1] : List Value).toArray s 0 0 (ha_A ad N)) (F0 m 27 ls [.int k0]) := by
    intro k0 S H locs ls hf  hP hD hS hl
    unfold f_X12_piece_J27 at hf
    have he := Option.some.inj hf
    exact ha_reti hx hb hr hlocks hP hD hS dX12_piece_27 (ha_e1 he) (ha_e2 he)
  have J26 : ∀  (S : ha_St) (H : Heap) (locs : List Loc) (ls : Array Slot), (f_X12_piece_J26 p0 p1  S).bind some = some out → va_P D vwCl (ha_wl cs ad mo_kd mo_ln N S) H → va_D (ha_A ad N) (ha_wl cs ad mo_kd mo_ln N S) → va_S (ha_A ad N) s.heap H locs → lv_has ls 2 [(0, .ref (ad p0)), (1, .int p1)] → W p l e (headSpec wsX12_piece ({ frames := 0, cells := 0, slots := 0, locals := 0 } : Room)).room s m ([.ref (ad p0), .int p1] : List Value).toArray below meth c H locs 0 0 (MQ below (va_Qi (fun (r : Int32) (_ : Unit) => r = out.1) (fun _ => ha_H D cs ad mo_kd mo_ln N out.2) (ha_A ad N)) ([.ref (ad p0), .int p1] : List Value).toArray s 0 0 (ha_A ad N)) (F0 m 26 ls []) := by
    intro  S H locs ls hf  hP hD hS hl
    unfold f_X12_piece_J26 at hf
    refine lv_iconst (v := (-1)) hx hb dX12_piece_26 (by decide) ?_
    exact J27 (-1) S H locs ls hf  hP hD hS (lv_sub hl [0, 1] rfl)
  unfold f_X12_piece at hf
  refine lv_aload_n hx hb dX12_piece_0 rfl (lv_at hl 0 rfl) ?_
  refine lv_iconst (v := 0) hx hb dX12_piece_1 (by decide) ?_
  refine ha_puti hx hb hown hK hP hD hS r138 hN h0 dX12_piece_2 (fun S1 H locs eS1 hP hD hS => ?_)
  have hf := ha_nms hf eS1
  refine lv_iload_n hx hb dX12_piece_5 rfl (lv_at hl 1 rfl) ?_
  refine lv_if_lt (tgt := 26) hx hb dX12_piece_6 (by decide) (fun c2 => ?_) (fun c2 => ?_)
  · have hf := ha_it hf c2
    exact J26  S1 H locs ls hf  hP hD hS (lv_sub hl [0, 1] rfl)
  · have hf := ha_if hf c2
    refine lv_iload_n hx hb dX12_piece_9 rfl (lv_at hl 1 rfl) ?_
    refine lv_aload_n hx hb dX12_piece_10 rfl (lv_at hl 0 rfl) ?_
    refine ha_geti hx hb hown hK hP q374 hN h0 dX12_piece_11 ?_
    refine lv_icmp_ge (tgt := 26) hx hb dX12_piece_14 (by decide) (fun c3 => ?_) (fun c3 => ?_)
    · have hf := ha_it hf c3
      exact J26  S1 H locs ls hf  hP hD hS (lv_sub hl [0, 1] rfl)
    · have hf := ha_if hf c3
      refine lv_aload_n hx hb dX12_piece_17 rfl (lv_at hl 0 rfl) ?_
      obtain ⟨r4, wr4, hf⟩ := ha_bds hf
      obtain ⟨wr4, hr4⟩ := ha_rf_some wr4
      refine ha_getr hx hb hown hK hP q114 hN h0 wr4 dX12_piece_18 ?_
      refine lv_iload_n hx hb dX12_piece_21 rfl (lv_at hl 1 rfl) ?_
      obtain ⟨g5, hf⟩ := ha_gds hf
      refine ha_iald hx hb hK hP hN hr4 g5 dX12_piece_22 ?_
      refine lv_goto (tgt := 27) hx hb dX12_piece_23 (by decide) ?_
      exact J27 ((ha_gA S1 r4 (p1 : Int32).toNatClampNeg)) S1 H locs ls hf  hP hD hS (lv_sub hl [0, 1] rfl)

set_option maxHeartbeats 4000000 in
set_option maxRecDepth 100000 in
theorem c_X12_year {l : Launch} {D : va_G} {cs : Nat → ClassId} {ad : Nat → Nat} {N : List Nat} {Z : State → Prop} (hZ : ha_Zok (ha_A ad N) Z) (hN : ∀ x, mo_kd x < 999 → x ∈ N) {p0 : Nat} {S : ha_St} {out : Int32 × ha_St} (h0 : mo_kd p0 = 12) (hf : f_X12_year p0 S = some out) : ha_Ci l D cs ad mo_kd mo_ln N Z yX12_year wsX12_year ({ frames := 2, cells := 0, slots := 0, locals := 45 } : Room) [.ref (ad p0)] S out.1 out.2 := by
  refine Met.ofW (cc := cX12_year) (maxL := 3) (ret := (some .int)) (by decide +kernel) rfl ?_
  intro p e s m args below meth c s₁ B hml hv
  obtain ⟨rfl, hP, hD, hK, hz⟩ := hv
  have hx := B.exec
  have hb := B.bytes
  have hr := B.returns
  have hts := atoms_spec (ws := wsX12_year) B.pre
  have hown : s.vm.findClass RX12 = some m.cls := findClass_of_methodNamed B.named
  have hlocks := B.notSynchronized
  have hS : va_S (ha_A ad N) s.heap s.heap [] := va_S.rf
  have hi12 : ∀ w ∈ wsX120, w ∈ wsX12_year := fun w h => List.mem_cons_of_mem _ (List.mem_append_right _ h)
  have q105 : ha_Fk s ([.ref (ad p0)] : List Value).toArray RX12 105 12 66 1 := ⟨RX12, TX12, 83, wsX12_year, rfl, by decide, by decide, rfl, rfl, hts, hi12, hts (.fieldLink RX12 105 "HillArmsModel" "textSize" "[I") (by decide +kernel)⟩
  have q377 : ha_Fk s ([.ref (ad p0)] : List Value).toArray RX12 377 12 68 0 := ⟨RX12, TX12, 83, wsX12_year, rfl, by decide, by decide, rfl, rfl, hts, hi12, hts (.fieldLink RX12 377 "HillArmsModel" "texts" "I") (by decide +kernel)⟩
  have q102 : ha_Fk s ([.ref (ad p0)] : List Value).toArray RX12 102 12 65 1 := ⟨RX12, TX12, 83, wsX12_year, rfl, by decide, by decide, rfl, rfl, hts, hi12, hts (.fieldLink RX12 102 "HillArmsModel" "text" "[I") (by decide +kernel)⟩
  have q7 : ha_Fk s ([.ref (ad p0)] : List Value).toArray RX12 7 12 1 1 := ⟨RX12, TX12, 83, wsX12_year, rfl, by decide, by decide, rfl, rfl, hts, hi12, hts (.fieldLink RX12 7 "HillArmsModel" "tape" "[I") (by decide +kernel)⟩
  have r377 : ha_Fp s ([.ref (ad p0)] : List Value).toArray RX12 377 12 68 0 .int := ⟨RX12, TX12, 83, wsX12_year, tyX12, rfl, by decide, by decide, rfl, rfl, hts, hi12, hts (.fieldLink RX12 377 "HillArmsModel" "texts" "I") (by decide +kernel), tyX12_ok, nmX12, rfl, by decide +kernel⟩
  have r138 : ha_Fp s ([.ref (ad p0)] : List Value).toArray RX12 138 12 0 0 .int := ⟨RX12, TX12, 83, wsX12_year, tyX12, rfl, by decide, by decide, rfl, rfl, hts, hi12, hts (.fieldLink RX12 138 "HillArmsModel" "thrown" "I") (by decide +kernel), tyX12_ok, nmX12, rfl, by decide +kernel⟩
  have cw0 := cwV (R := (headSpec wsX12_year ({ frames := 2, cells := 0, slots := 0, locals := 45 } : Room)).room) 0 hts gX12_year_X12_take (rm := ({ frames := 0, cells := 0, slots := 0, locals := 0 } : Room)) (mc := 0) (ms := 0) rfl rfl rfl (by decide +kernel) ⟨Nat.le_of_ble_eq_true rfl, Nat.le_of_ble_eq_true rfl⟩
  have cw1 := cwV (R := (headSpec wsX12_year ({ frames := 2, cells := 0, slots := 0, locals := 45 } : Room)).room) 2 hts gX12_year_X12_isTold (rm := ({ frames := 1, cells := 0, slots := 0, locals := 22 } : Room)) (mc := 0) (ms := 0) rfl rfl rfl (by decide +kernel) ⟨Nat.le_of_ble_eq_true rfl, Nat.le_of_ble_eq_true rfl⟩
  have hl := lv_entry ([.ref (ad p0)]) (n := 3) (Nat.le_of_ble_eq_true rfl)
  rw [lg_entry_eq]
  generalize (lg_sl ([.ref (ad p0)]) ++ List.replicate (3 - (lg_sl ([.ref (ad p0)])).length) Slot.unset).toArray = ls at hl ⊢
  have hl : lv_has ls 3 [(0, .ref (ad p0))] := hl
  refine (fun (K0 : ∀ (H : Heap) (locs : List Loc), va_P D vwCl (ha_wl cs ad mo_kd mo_ln N S) H → va_S (ha_A ad N) s.heap H locs → W p l e (headSpec wsX12_year ({ frames := 2, cells := 0, slots := 0, locals := 45 } : Room)).room s m ([.ref (ad p0)] : List Value).toArray below meth c H locs 0 0 (MQ below (va_Qi (fun (r : Int32) (_ : Unit) => r = out.1) (fun _ => ha_H D cs ad mo_kd mo_ln N out.2) (ha_A ad N)) ([.ref (ad p0)] : List Value).toArray s 0 0 (ha_A ad N)) (F0 m 0 ls [])) => K0 _ _ hP hS) ?_
  intro H locs hP hS
  have hf := ha_rt hf
  have J64 : ∀ (v1 : Int32) (S : ha_St) (H : Heap) (locs : List Loc) (ls : Array Slot), (f_X12_year_J64 p0 v1 S).bind some = some out → va_P D vwCl (ha_wl cs ad mo_kd mo_ln N S) H → va_D (ha_A ad N) (ha_wl cs ad mo_kd mo_ln N S) → va_S (ha_A ad N) s.heap H locs → lv_has ls 3 [(0, .ref (ad p0)), (1, .int v1)] → W p l e (headSpec wsX12_year ({ frames := 2, cells := 0, slots := 0, locals := 45 } : Room)).room s m ([.ref (ad p0)] : List Value).toArray below meth c H locs 0 0 (MQ below (va_Qi (fun (r : Int32) (_ : Unit) => r = out.1) (fun _ => ha_H D cs ad mo_kd mo_ln N out.2) (ha_A ad N)) ([.ref (ad p0)] : List Value).toArray s 0 0 (ha_A ad N)) (F0 m 64 ls []) := by
    intro v1 S H locs ls hf  hP hD hS hl
    unfold f_X12_year_J64 at hf
    refine lv_aload_n hx hb dX12_year_64 rfl (lv_at hl 0 rfl) ?_
    obtain ⟨r1, wr1, hf⟩ := ha_bds hf
    obtain ⟨wr1, hr1⟩ := ha_rf_some wr1
    refine ha_getr hx hb hown hK hP q105 hN h0 wr1 dX12_year_65 ?_
    refine lv_aload_n hx hb dX12_year_68 rfl (lv_at hl 0 rfl) ?_
    refine ha_geti hx hb hown hK hP q377 hN h0 dX12_year_69 ?_
    refine lv_iload_n hx hb dX12_year_72 rfl (lv_at hl 1 rfl) ?_
    obtain ⟨g2, hf⟩ := ha_gds hf
    refine ha_iast hx hb hK hP hD hS hN hr1 g2 dX12_year_73 (fun S3 H locs eS3 hP hD hS => ?_)
    have hf := ha_nms hf eS3
    refine lv_aload_n hx hb dX12_year_74 rfl (lv_at hl 0 rfl) ?_
    refine lv_dup hx hb dX12_year_75 rfl ?_
    refine ha_geti hx hb hown hK hP q377 hN h0 dX12_year_76 ?_
    refine lv_iconst (v := 1) hx hb dX12_year_79 (by decide) ?_
    refine lv_iadd hx hb dX12_year_80 ?_
    refine ha_puti hx hb hown hK hP hD hS r377 hN h0 dX12_year_81 (fun S4 H locs eS4 hP hD hS => ?_)
    have hf := ha_nms hf eS4
    refine lv_aload_n hx hb dX12_year_84 rfl (lv_at hl 0 rfl) ?_
    refine ha_geti hx hb hown hK hP q377 hN h0 dX12_year_85 ?_
    have he := Option.some.inj hf
    exact ha_reti hx hb hr hlocks hP hD hS dX12_year_88 (ha_e1 he) (ha_e2 he)
  have J29 : ∀  (S : ha_St) (H : Heap) (locs : List Loc) (ls : Array Slot), (f_X12_year_J29 p0  S).bind some = some out → va_P D vwCl (ha_wl cs ad mo_kd mo_ln N S) H → va_D (ha_A ad N) (ha_wl cs ad mo_kd mo_ln N S) → va_S (ha_A ad N) s.heap H locs → lv_has ls 3 [(0, .ref (ad p0))] → W p l e (headSpec wsX12_year ({ frames := 2, cells := 0, slots := 0, locals := 45 } : Room)).room s m ([.ref (ad p0)] : List Value).toArray below meth c H locs 0 0 (MQ below (va_Qi (fun (r : Int32) (_ : Unit) => r = out.1) (fun _ => ha_H D cs ad mo_kd mo_ln N out.2) (ha_A ad N)) ([.ref (ad p0)] : List Value).toArray s 0 0 (ha_A ad N)) (F0 m 29 ls []) := by
    intro  S H locs ls hf  hP hD hS hl
    unfold f_X12_year_J29 at hf
    refine lv_iconst (v := (-1)) hx hb dX12_year_29 (by decide) ?_
    have he := Option.some.inj hf
    exact ha_reti hx hb hr hlocks hP hD hS dX12_year_30 (ha_e1 he) (ha_e2 he)
  unfold f_X12_year at hf
  refine lv_aload_n hx hb dX12_year_0 rfl (lv_at hl 0 rfl) ?_
  refine lv_iconst (v := 0) hx hb dX12_year_1 (by decide) ?_
  refine ha_puti hx hb hown hK hP hD hS r138 hN h0 dX12_year_2 (fun S5 H locs eS5 hP hD hS => ?_)
  have hf := ha_nms hf eS5
  refine lv_aload_n hx hb dX12_year_5 rfl (lv_at hl 0 rfl) ?_
  obtain ⟨z6, wz6, hf⟩ := ha_bds hf
  refine ha_callVi (As := []) (rest := []) hZ ⟨hx, hb, hml, hown, hts⟩ hK hz hP hD hS (c_X12_take hZ hN h0 wz6) cw0 hN h0 (by decide) rfl rfl hl.1 rfl (Nat.le_of_ble_eq_true rfl) dX12_year_6 ⟨Nat.le_of_ble_eq_true rfl, Nat.le_of_ble_eq_true rfl⟩ (fun H locs hP hD hS => ?_)
  refine lv_istore_n (lv' := [(1, .int z6.1), (0, .ref (ad p0))]) hx hb dX12_year_9 rfl hl (by decide) rfl (fun ls hl => ?_)
  refine lv_aload_n hx hb dX12_year_10 rfl (lv_at hl 1 rfl) ?_
  refine ha_geti hx hb hown hK hP q377 hN h0 dX12_year_11 ?_
  refine lv_bipush (v := 8) hx hb dX12_year_14 (by decide) ?_
  refine lv_icmp_eq (tgt := 29) hx hb dX12_year_16 (by decide) (fun c7 => ?_) (fun c7 => ?_)
  · have hf := ha_it hf c7
    exact J29  z6.2 H locs ls hf  hP hD hS (lv_sub hl [1] rfl)
  · have hf := ha_if hf c7
    refine lv_aload_n hx hb dX12_year_19 rfl (lv_at hl 1 rfl) ?_
    refine lv_iload_n hx hb dX12_year_20 rfl (lv_at hl 0 rfl) ?_
    refine lv_bipush (v := 60) hx hb dX12_year_21 (by decide) ?_
    obtain ⟨z8, wz8, hf⟩ := ha_bds hf
    refine ha_callVi (As := [.int z6.1, .int 60]) (rest := []) hZ ⟨hx, hb, hml, hown, hts⟩ hK hz hP hD hS (c_X12_isTold hZ hN h0 wz8) cw1 hN h0 (by decide) rfl rfl hl.1 rfl (Nat.le_of_ble_eq_true rfl) dX12_year_23 ⟨Nat.le_of_ble_eq_true rfl, Nat.le_of_ble_eq_true rfl⟩ (fun H locs hP hD hS => ?_)
    refine lv_if_ne (tgt := 31) hx hb dX12_year_26 (by decide) (fun c9 => ?_) (fun c9 => ?_)
    · have hf := ha_it hf c9
      refine lv_iconst (v := 0) hx hb dX12_year_31 (by decide) ?_
      refine lv_istore_n (lv' := [(2, .int 0), (1, .int z6.1), (0, .ref (ad p0))]) hx hb dX12_year_32 rfl hl (by decide) rfl (fun ls hl => ?_)
      have key17 : ∀ (K : (Int32 × ha_St) → Option (Int32 × ha_St)), (∀ (v1 : Int32) (S : ha_St) (H : Heap) (locs : List Loc) (ls : Array Slot), K (v1, S) = some out → va_P D vwCl (ha_wl cs ad mo_kd mo_ln N S) H → va_D (ha_A ad N) (ha_wl cs ad mo_kd mo_ln N S) → va_S (ha_A ad N) s.heap H locs → lv_has ls 3 [(0, .ref (ad p0)), (1, .int v1)] → W p l e (headSpec wsX12_year ({ frames := 2, cells := 0, slots := 0, locals := 45 } : Room)).room s m ([.ref (ad p0)] : List Value).toArray below meth c H locs 0 0 (MQ below (va_Qi (fun (r : Int32) (_ : Unit) => r = out.1) (fun _ => ha_H D cs ad mo_kd mo_ln N out.2) (ha_A ad N)) ([.ref (ad p0)] : List Value).toArray s 0 0 (ha_A ad N)) (F0 m 64 ls [])) → ∀ (n : Nat) (v1 : Int32) (v2 : Int32) (S : ha_St) (H : Heap) (locs : List Loc) (ls : Array Slot), (f_X12_year_L33i p0 n (v1, v2, S)).bind K = some out → va_P D vwCl (ha_wl cs ad mo_kd mo_ln N S) H → va_D (ha_A ad N) (ha_wl cs ad mo_kd mo_ln N S) → va_S (ha_A ad N) s.heap H locs → lv_has ls 3 [(0, .ref (ad p0)), (1, .int v1), (2, .int v2)] → W p l e (headSpec wsX12_year ({ frames := 2, cells := 0, slots := 0, locals := 45 } : Room)).room s m ([.ref (ad p0)] : List Value).toArray below meth c H locs 0 0 (MQ below (va_Qi (fun (r : Int32) (_ : Unit) => r = out.1) (fun _ => ha_H D cs ad mo_kd mo_ln N out.2) (ha_A ad N)) ([.ref (ad p0)] : List Value).toArray s 0 0 (ha_A ad N)) (F0 m 33 ls []) := by
        intro K hk n
        induction n with
        | zero =>
          intro v1 v2 S H locs ls hf
          exact absurd (show (none : Option (Int32 × ha_St)) = some out from hf) (fun h => by cases h)
        | succ n ih =>
          intro v1 v2 S H locs ls hf  hP hD hS hl
          have hf : (f_X12_year_L33 p0 (f_X12_year_L33i p0 n) v1 v2 S).bind K = some out := hf
          unfold f_X12_year_L33 at hf
          refine lv_iload_n hx hb dX12_year_33 rfl (lv_at hl 2 rfl) ?_
          refine lv_iload_n hx hb dX12_year_34 rfl (lv_at hl 1 rfl) ?_
          refine lv_icmp_ge (tgt := 64) hx hb dX12_year_35 (by decide) (fun c10 => ?_) (fun c10 => ?_)
          · have hf := ha_it hf c10
            exact hk v1 S H locs ls hf  hP hD hS (lv_sub hl [0, 1] rfl)
          · have hf := ha_if hf c10
            refine lv_aload_n hx hb dX12_year_38 rfl (lv_at hl 0 rfl) ?_
            obtain ⟨r11, wr11, hf⟩ := ha_bds hf
            obtain ⟨wr11, hr11⟩ := ha_rf_some wr11
            refine ha_getr hx hb hown hK hP q102 hN h0 wr11 dX12_year_39 ?_
            refine lv_bipush (v := 60) hx hb dX12_year_42 (by decide) ?_
            refine lv_aload_n hx hb dX12_year_44 rfl (lv_at hl 0 rfl) ?_
            refine ha_geti hx hb hown hK hP q377 hN h0 dX12_year_45 ?_
            refine lv_imul hx hb dX12_year_48 ?_
            refine lv_iload_n hx hb dX12_year_49 rfl (lv_at hl 2 rfl) ?_
            refine lv_iadd hx hb dX12_year_50 ?_
            refine lv_aload_n hx hb dX12_year_51 rfl (lv_at hl 0 rfl) ?_
            obtain ⟨r12, wr12, hf⟩ := ha_bds hf
            obtain ⟨wr12, hr12⟩ := ha_rf_some wr12
            refine ha_getr hx hb hown hK hP q7 hN h0 wr12 dX12_year_52 ?_
            refine lv_iload_n hx hb dX12_year_55 rfl (lv_at hl 2 rfl) ?_
            obtain ⟨g13, hf⟩ := ha_gds hf
            refine ha_iald hx hb hK hP hN hr12 g13 dX12_year_56 ?_
            obtain ⟨g14, hf⟩ := ha_gds hf
            refine ha_iast hx hb hK hP hD hS hN hr11 g14 dX12_year_57 (fun S15 H locs eS15 hP hD hS => ?_)
            have hf := ha_nms hf eS15
            obtain ⟨x16, ex16⟩ : ∃ y : Int32, y = (v2 : Int32) + 1 := ⟨_, rfl⟩
            have hf := ha_nms hf ex16
            refine lv_iinc (v := x16) (lv' := [(2, .int x16), (0, .ref (ad p0)), (1, .int v1)]) hx hb dX12_year_58 hl (k := 2) rfl (by rw [ex16]; rfl) (by decide) rfl (fun ls hl => ?_)
            refine lv_goto (tgt := 33) hx hb dX12_year_61 (by decide) ?_
            exact ih v1 x16 S15 H locs ls hf  hP hD hS (lv_sub hl [1, 2, 0] rfl)
      refine key17 _ (fun v1 S H locs ls hf  hP hD hS hl => ?_) ha_fu z6.1 0 z8.2 H locs ls (ha_as hf)  hP hD hS (lv_sub hl [2, 1, 0] rfl)
      have hf : (f_X12_year_J64 p0 v1 S).bind some = some out := hf
      exact J64 v1 S H locs ls hf  hP hD hS (lv_sub hl [0, 1] rfl)
    · have hf := ha_if hf (fun q => q c9)
      exact J29  z8.2 H locs ls hf  hP hD hS (lv_sub hl [1] rfl)

set_option maxHeartbeats 4000000 in
set_option maxRecDepth 100000 in
theorem c_X12_small {l : Launch} {D : va_G} {cs : Nat → ClassId} {ad : Nat → Nat} {N : List Nat} {Z : State → Prop} (hZ : ha_Zok (ha_A ad N) Z) (hN : ∀ x, mo_kd x < 999 → x ∈ N) {p0 : Nat} {p1 : Int32} {S : ha_St} {out : Int32 × ha_St} (h0 : mo_kd p0 = 12) (hf : f_X12_small p0 p1 S = some out) : ha_Ci l D cs ad mo_kd mo_ln N Z yX12_small wsX12_small ({ frames := 2, cells := 0, slots := 0, locals := 47 } : Room) [.ref (ad p0), .int p1] S out.1 out.2 := by
  refine Met.ofW (cc := cX12_small) (maxL := 8) (ret := (some .int)) (by decide +kernel) rfl ?_
  intro p e s m args below meth c s₁ B hml hv
  obtain ⟨rfl, hP, hD, hK, hz⟩ := hv
  have hx := B.exec
  have hb := B.bytes
  have hr := B.returns
  have hts := atoms_spec (ws := wsX12_small) B.pre
  have hown : s.vm.findClass RX12 = some m.cls := findClass_of_methodNamed B.named
  have hlocks := B.notSynchronized
  have hS : va_S (ha_A ad N) s.heap s.heap [] := va_S.rf
  have hi12 : ∀ w ∈ wsX120, w ∈ wsX12_small := fun w h => List.mem_cons_of_mem _ (List.mem_append_right _ h)
  have q377 : ha_Fk s ([.ref (ad p0), .int p1] : List Value).toArray RX12 377 12 68 0 := ⟨RX12, TX12, 83, wsX12_small, rfl, by decide, by decide, rfl, rfl, hts, hi12, hts (.fieldLink RX12 377 "HillArmsModel" "texts" "I") (by decide +kernel)⟩
  have q105 : ha_Fk s ([.ref (ad p0), .int p1] : List Value).toArray RX12 105 12 66 1 := ⟨RX12, TX12, 83, wsX12_small, rfl, by decide, by decide, rfl, rfl, hts, hi12, hts (.fieldLink RX12 105 "HillArmsModel" "textSize" "[I") (by decide +kernel)⟩
  have q365 : ha_Fk s ([.ref (ad p0), .int p1] : List Value).toArray RX12 365 12 72 0 := ⟨RX12, TX12, 83, wsX12_small, rfl, by decide, by decide, rfl, rfl, hts, hi12, hts (.fieldLink RX12 365 "HillArmsModel" "atSize" "I") (by decide +kernel)⟩
  have q108 : ha_Fk s ([.ref (ad p0), .int p1] : List Value).toArray RX12 108 12 69 1 := ⟨RX12, TX12, 83, wsX12_small, rfl, by decide, by decide, rfl, rfl, hts, hi12, hts (.fieldLink RX12 108 "HillArmsModel" "at" "[I") (by decide +kernel)⟩
  have q102 : ha_Fk s ([.ref (ad p0), .int p1] : List Value).toArray RX12 102 12 65 1 := ⟨RX12, TX12, 83, wsX12_small, rfl, by decide, by decide, rfl, rfl, hts, hi12, hts (.fieldLink RX12 102 "HillArmsModel" "text" "[I") (by decide +kernel)⟩
  have q359 : ha_Fk s ([.ref (ad p0), .int p1] : List Value).toArray RX12 359 12 67 0 := ⟨RX12, TX12, 83, wsX12_small, rfl, by decide, by decide, rfl, rfl, hts, hi12, hts (.fieldLink RX12 359 "HillArmsModel" "entries" "I") (by decide +kernel)⟩
  have r138 : ha_Fp s ([.ref (ad p0), .int p1] : List Value).toArray RX12 138 12 0 0 .int := ⟨RX12, TX12, 83, wsX12_small, tyX12, rfl, by decide, by decide, rfl, rfl, hts, hi12, hts (.fieldLink RX12 138 "HillArmsModel" "thrown" "I") (by decide +kernel), tyX12_ok, nmX12, rfl, by decide +kernel⟩
  have r117 : ha_Fp s ([.ref (ad p0), .int p1] : List Value).toArray RX12 117 12 74 0 .int := ⟨RX12, TX12, 83, wsX12_small, tyX12, rfl, by decide, by decide, rfl, rfl, hts, hi12, hts (.fieldLink RX12 117 "HillArmsModel" "smallSet" "I") (by decide +kernel), tyX12_ok, nmX12, rfl, by decide +kernel⟩
  have r365 : ha_Fp s ([.ref (ad p0), .int p1] : List Value).toArray RX12 365 12 72 0 .int := ⟨RX12, TX12, 83, wsX12_small, tyX12, rfl, by decide, by decide, rfl, rfl, hts, hi12, hts (.fieldLink RX12 365 "HillArmsModel" "atSize" "I") (by decide +kernel), tyX12_ok, nmX12, rfl, by decide +kernel⟩
  have cw0 := va_cwS (R := (headSpec wsX12_small ({ frames := 2, cells := 0, slots := 0, locals := 47 } : Room)).room) 3 hts gX12_small_X12_isIn (rm := ({ frames := 0, cells := 0, slots := 0, locals := 0 } : Room)) (mc := 0) (ms := 0) rfl rfl rfl (by decide +kernel) ⟨Nat.le_of_ble_eq_true rfl, Nat.le_of_ble_eq_true rfl⟩
  have cn380 := hts (.constant RX12 380 (100000)) (by decide +kernel)
  have cw2 := cwV (R := (headSpec wsX12_small ({ frames := 2, cells := 0, slots := 0, locals := 47 } : Room)).room) 1 hts gX12_small_X12_fewestBy (rm := ({ frames := 1, cells := 0, slots := 0, locals := 24 } : Room)) (mc := 0) (ms := 0) rfl rfl rfl (by decide +kernel) ⟨Nat.le_of_ble_eq_true rfl, Nat.le_of_ble_eq_true rfl⟩
  have hl := lv_entry ([.ref (ad p0), .int p1]) (n := 8) (Nat.le_of_ble_eq_true rfl)
  rw [lg_entry_eq]
  generalize (lg_sl ([.ref (ad p0), .int p1]) ++ List.replicate (8 - (lg_sl ([.ref (ad p0), .int p1])).length) Slot.unset).toArray = ls at hl ⊢
  have hl : lv_has ls 8 [(0, .ref (ad p0)), (1, .int p1)] := hl
  refine (fun (K0 : ∀ (H : Heap) (locs : List Loc), va_P D vwCl (ha_wl cs ad mo_kd mo_ln N S) H → va_S (ha_A ad N) s.heap H locs → W p l e (headSpec wsX12_small ({ frames := 2, cells := 0, slots := 0, locals := 47 } : Room)).room s m ([.ref (ad p0), .int p1] : List Value).toArray below meth c H locs 0 0 (MQ below (va_Qi (fun (r : Int32) (_ : Unit) => r = out.1) (fun _ => ha_H D cs ad mo_kd mo_ln N out.2) (ha_A ad N)) ([.ref (ad p0), .int p1] : List Value).toArray s 0 0 (ha_A ad N)) (F0 m 0 ls [])) => K0 _ _ hP hS) ?_
  intro H locs hP hS
  have hf := ha_rt hf
  have J183 : ∀ (v2 : Int32) (S : ha_St) (H : Heap) (locs : List Loc) (ls : Array Slot), (f_X12_small_J183 p0 p1 v2 S).bind some = some out → va_P D vwCl (ha_wl cs ad mo_kd mo_ln N S) H → va_D (ha_A ad N) (ha_wl cs ad mo_kd mo_ln N S) → va_S (ha_A ad N) s.heap H locs → lv_has ls 8 [(0, .ref (ad p0)), (1, .int p1), (2, .int v2)] → W p l e (headSpec wsX12_small ({ frames := 2, cells := 0, slots := 0, locals := 47 } : Room)).room s m ([.ref (ad p0), .int p1] : List Value).toArray below meth c H locs 0 0 (MQ below (va_Qi (fun (r : Int32) (_ : Unit) => r = out.1) (fun _ => ha_H D cs ad mo_kd mo_ln N out.2) (ha_A ad N)) ([.ref (ad p0), .int p1] : List Value).toArray s 0 0 (ha_A ad N)) (F0 m 183 ls []) := by
    intro v2 S H locs ls hf  hP hD hS hl
    unfold f_X12_small_J183 at hf
    refine lv_iload_n hx hb dX12_small_183 rfl (lv_at hl 2 rfl) ?_
    have he := Option.some.inj hf
    exact ha_reti hx hb hr hlocks hP hD hS dX12_small_184 (ha_e1 he) (ha_e2 he)
  unfold f_X12_small at hf
  refine lv_aload_n hx hb dX12_small_0 rfl (lv_at hl 0 rfl) ?_
  refine lv_iconst (v := 0) hx hb dX12_small_1 (by decide) ?_
  refine ha_puti hx hb hown hK hP hD hS r138 hN h0 dX12_small_2 (fun S1 H locs eS1 hP hD hS => ?_)
  have hf := ha_nms hf eS1
  refine lv_iload_n hx hb dX12_small_5 rfl (lv_at hl 1 rfl) ?_
  refine lv_iconst (v := 0) hx hb dX12_small_6 (by decide) ?_
  refine lv_bipush (v := 12) hx hb dX12_small_7 (by decide) ?_
  obtain ⟨z2, wz2, hf⟩ := ha_bds hf
  refine ha_callSi (As := [.int p1, .int 0, .int 12]) (rest := []) hZ ⟨hx, hb, hml, hown, hts⟩ hK hz hP hD hS (c_X12_isIn   wz2) cw0 rfl hl.1 rfl (Nat.le_of_ble_eq_true rfl) dX12_small_9 ⟨Nat.le_of_ble_eq_true rfl, Nat.le_of_ble_eq_true rfl⟩ (fun H locs hP hD hS => ?_)
  refine lv_if_ne (tgt := 17) hx hb dX12_small_12 (by decide) (fun c3 => ?_) (fun c3 => ?_)
  · have hf := ha_it hf c3
    refine lv_ldcw hx hb hown cn380 dX12_small_17 ?_
    refine lv_istore_n (lv' := [(2, .int 100000), (0, .ref (ad p0)), (1, .int p1)]) hx hb dX12_small_20 rfl hl (by decide) rfl (fun ls hl => ?_)
    refine lv_iconst (v := 0) hx hb dX12_small_21 (by decide) ?_
    refine lv_istore_n (lv' := [(3, .int 0), (2, .int 100000), (0, .ref (ad p0)), (1, .int p1)]) hx hb dX12_small_22 rfl hl (by decide) rfl (fun ls hl => ?_)
    have key33 : ∀ (K : (Int32 × ha_St) → Option (Int32 × ha_St)), (∀ (v2 : Int32) (S : ha_St) (H : Heap) (locs : List Loc) (ls : Array Slot), K (v2, S) = some out → va_P D vwCl (ha_wl cs ad mo_kd mo_ln N S) H → va_D (ha_A ad N) (ha_wl cs ad mo_kd mo_ln N S) → va_S (ha_A ad N) s.heap H locs → lv_has ls 8 [(0, .ref (ad p0)), (1, .int p1), (2, .int v2)] → W p l e (headSpec wsX12_small ({ frames := 2, cells := 0, slots := 0, locals := 47 } : Room)).room s m ([.ref (ad p0), .int p1] : List Value).toArray below meth c H locs 0 0 (MQ below (va_Qi (fun (r : Int32) (_ : Unit) => r = out.1) (fun _ => ha_H D cs ad mo_kd mo_ln N out.2) (ha_A ad N)) ([.ref (ad p0), .int p1] : List Value).toArray s 0 0 (ha_A ad N)) (F0 m 183 ls [])) → ∀ (n : Nat) (v2 : Int32) (v3 : Int32) (S : ha_St) (H : Heap) (locs : List Loc) (ls : Array Slot), (f_X12_small_L23i p0 p1 n (v2, v3, S)).bind K = some out → va_P D vwCl (ha_wl cs ad mo_kd mo_ln N S) H → va_D (ha_A ad N) (ha_wl cs ad mo_kd mo_ln N S) → va_S (ha_A ad N) s.heap H locs → lv_has ls 8 [(0, .ref (ad p0)), (1, .int p1), (2, .int v2), (3, .int v3)] → W p l e (headSpec wsX12_small ({ frames := 2, cells := 0, slots := 0, locals := 47 } : Room)).room s m ([.ref (ad p0), .int p1] : List Value).toArray below meth c H locs 0 0 (MQ below (va_Qi (fun (r : Int32) (_ : Unit) => r = out.1) (fun _ => ha_H D cs ad mo_kd mo_ln N out.2) (ha_A ad N)) ([.ref (ad p0), .int p1] : List Value).toArray s 0 0 (ha_A ad N)) (F0 m 23 ls []) := by
      intro K hk n
      induction n with
      | zero =>
        intro v2 v3 S H locs ls hf
        exact absurd (show (none : Option (Int32 × ha_St)) = some out from hf) (fun h => by cases h)
      | succ n ih =>
        intro v2 v3 S H locs ls hf  hP hD hS hl
        have J177 : ∀ (v2 : Int32) (v3 : Int32) (S : ha_St) (H : Heap) (locs : List Loc) (ls : Array Slot), (f_X12_small_L23_J177 p0 p1 (f_X12_small_L23i p0 p1 n) v2 v3 S).bind K = some out → va_P D vwCl (ha_wl cs ad mo_kd mo_ln N S) H → va_D (ha_A ad N) (ha_wl cs ad mo_kd mo_ln N S) → va_S (ha_A ad N) s.heap H locs → lv_has ls 8 [(0, .ref (ad p0)), (1, .int p1), (2, .int v2), (3, .int v3)] → W p l e (headSpec wsX12_small ({ frames := 2, cells := 0, slots := 0, locals := 47 } : Room)).room s m ([.ref (ad p0), .int p1] : List Value).toArray below meth c H locs 0 0 (MQ below (va_Qi (fun (r : Int32) (_ : Unit) => r = out.1) (fun _ => ha_H D cs ad mo_kd mo_ln N out.2) (ha_A ad N)) ([.ref (ad p0), .int p1] : List Value).toArray s 0 0 (ha_A ad N)) (F0 m 177 ls []) := by
          intro v2 v3 S H locs ls hf  hP hD hS hl
          unfold f_X12_small_L23_J177 at hf
          obtain ⟨x4, ex4⟩ : ∃ y : Int32, y = (v3 : Int32) + 1 := ⟨_, rfl⟩
          have hf := ha_nms hf ex4
          refine lv_iinc (v := x4) (lv' := [(3, .int x4), (0, .ref (ad p0)), (1, .int p1), (2, .int v2)]) hx hb dX12_small_177 hl (k := 3) rfl (by rw [ex4]; rfl) (by decide) rfl (fun ls hl => ?_)
          refine lv_goto (tgt := 23) hx hb dX12_small_180 (by decide) ?_
          exact ih v2 x4 S H locs ls hf  hP hD hS (lv_sub hl [1, 2, 3, 0] rfl)
        have J160 : ∀ (v2 : Int32) (v3 : Int32) (v5 : Int32) (S : ha_St) (H : Heap) (locs : List Loc) (ls : Array Slot), (f_X12_small_L23_J160 p0 p1 (f_X12_small_L23i p0 p1 n) v2 v3 v5 S).bind K = some out → va_P D vwCl (ha_wl cs ad mo_kd mo_ln N S) H → va_D (ha_A ad N) (ha_wl cs ad mo_kd mo_ln N S) → va_S (ha_A ad N) s.heap H locs → lv_has ls 8 [(0, .ref (ad p0)), (1, .int p1), (2, .int v2), (3, .int v3), (5, .int v5)] → W p l e (headSpec wsX12_small ({ frames := 2, cells := 0, slots := 0, locals := 47 } : Room)).room s m ([.ref (ad p0), .int p1] : List Value).toArray below meth c H locs 0 0 (MQ below (va_Qi (fun (r : Int32) (_ : Unit) => r = out.1) (fun _ => ha_H D cs ad mo_kd mo_ln N out.2) (ha_A ad N)) ([.ref (ad p0), .int p1] : List Value).toArray s 0 0 (ha_A ad N)) (F0 m 160 ls []) := by
          intro v2 v3 v5 S H locs ls hf  hP hD hS hl
          unfold f_X12_small_L23_J160 at hf
          refine lv_iload hx hb dX12_small_160 (lv_at hl 4 rfl) ?_
          refine lv_iload_n hx hb dX12_small_162 rfl (lv_at hl 2 rfl) ?_
          refine lv_icmp_lt (tgt := 169) hx hb dX12_small_163 (by decide) (fun c5 => ?_) (fun c5 => ?_)
          · have hf := ha_it hf c5
            refine lv_iload hx hb dX12_small_169 (lv_at hl 4 rfl) ?_
            refine lv_istore_n (lv' := [(2, .int v5), (0, .ref (ad p0)), (1, .int p1), (3, .int v3), (5, .int v5)]) hx hb dX12_small_171 rfl hl (by decide) rfl (fun ls hl => ?_)
            refine lv_aload_n hx hb dX12_small_172 rfl (lv_at hl 1 rfl) ?_
            refine lv_iload_n hx hb dX12_small_173 rfl (lv_at hl 3 rfl) ?_
            refine ha_puti hx hb hown hK hP hD hS r117 hN h0 dX12_small_174 (fun S6 H locs eS6 hP hD hS => ?_)
            have hf := ha_nms hf eS6
            exact J177 v5 v3 S6 H locs ls hf  hP hD hS (lv_sub hl [1, 2, 0, 3] rfl)
          · have hf := ha_if hf c5
            refine lv_goto (tgt := 177) hx hb dX12_small_166 (by decide) ?_
            exact J177 v2 v3 S H locs ls hf  hP hD hS (lv_sub hl [0, 1, 2, 3] rfl)
        have J65 : ∀ (v2 : Int32) (v3 : Int32) (v4 : Int32) (S : ha_St) (H : Heap) (locs : List Loc) (ls : Array Slot), (f_X12_small_L23_J65 p0 p1 (f_X12_small_L23i p0 p1 n) v2 v3 v4 S).bind K = some out → va_P D vwCl (ha_wl cs ad mo_kd mo_ln N S) H → va_D (ha_A ad N) (ha_wl cs ad mo_kd mo_ln N S) → va_S (ha_A ad N) s.heap H locs → lv_has ls 8 [(0, .ref (ad p0)), (1, .int p1), (2, .int v2), (3, .int v3), (4, .int v4)] → W p l e (headSpec wsX12_small ({ frames := 2, cells := 0, slots := 0, locals := 47 } : Room)).room s m ([.ref (ad p0), .int p1] : List Value).toArray below meth c H locs 0 0 (MQ below (va_Qi (fun (r : Int32) (_ : Unit) => r = out.1) (fun _ => ha_H D cs ad mo_kd mo_ln N out.2) (ha_A ad N)) ([.ref (ad p0), .int p1] : List Value).toArray s 0 0 (ha_A ad N)) (F0 m 65 ls []) := by
          intro v2 v3 v4 S H locs ls hf  hP hD hS hl
          unfold f_X12_small_L23_J65 at hf
          refine lv_iload hx hb dX12_small_65 (lv_at hl 4 rfl) ?_
          refine lv_iload_n hx hb dX12_small_67 rfl (lv_at hl 1 rfl) ?_
          refine lv_icmp_le (tgt := 74) hx hb dX12_small_68 (by decide) (fun c7 => ?_) (fun c7 => ?_)
          · have hf := ha_it hf c7
            refine lv_iconst (v := 0) hx hb dX12_small_74 (by decide) ?_
            refine lv_istore (lv' := [(5, .int 0), (0, .ref (ad p0)), (1, .int p1), (2, .int v2), (3, .int v3), (4, .int v4)]) hx hb dX12_small_75 hl (by decide) rfl (fun ls hl => ?_)
            refine lv_iconst (v := 0) hx hb dX12_small_77 (by decide) ?_
            refine lv_istore (lv' := [(6, .int 0), (5, .int 0), (0, .ref (ad p0)), (1, .int p1), (2, .int v2), (3, .int v3), (4, .int v4)]) hx hb dX12_small_78 hl (by decide) rfl (fun ls hl => ?_)
            have key25 : ∀ (K : (Int32 × Int32 × Int32 × ha_St) → Option (Int32 × ha_St)), (∀ (v2 : Int32) (v3 : Int32) (v5 : Int32) (S : ha_St) (H : Heap) (locs : List Loc) (ls : Array Slot), K (v2, v3, v5, S) = some out → va_P D vwCl (ha_wl cs ad mo_kd mo_ln N S) H → va_D (ha_A ad N) (ha_wl cs ad mo_kd mo_ln N S) → va_S (ha_A ad N) s.heap H locs → lv_has ls 8 [(0, .ref (ad p0)), (1, .int p1), (2, .int v2), (3, .int v3), (5, .int v5)] → W p l e (headSpec wsX12_small ({ frames := 2, cells := 0, slots := 0, locals := 47 } : Room)).room s m ([.ref (ad p0), .int p1] : List Value).toArray below meth c H locs 0 0 (MQ below (va_Qi (fun (r : Int32) (_ : Unit) => r = out.1) (fun _ => ha_H D cs ad mo_kd mo_ln N out.2) (ha_A ad N)) ([.ref (ad p0), .int p1] : List Value).toArray s 0 0 (ha_A ad N)) (F0 m 160 ls [])) → ∀ (n : Nat) (v2 : Int32) (v3 : Int32) (v5 : Int32) (v6 : Int32) (S : ha_St) (H : Heap) (locs : List Loc) (ls : Array Slot), (f_X12_small_L80i p0 p1 n (v2, v3, v5, v6, S)).bind K = some out → va_P D vwCl (ha_wl cs ad mo_kd mo_ln N S) H → va_D (ha_A ad N) (ha_wl cs ad mo_kd mo_ln N S) → va_S (ha_A ad N) s.heap H locs → lv_has ls 8 [(0, .ref (ad p0)), (1, .int p1), (2, .int v2), (3, .int v3), (5, .int v5), (6, .int v6)] → W p l e (headSpec wsX12_small ({ frames := 2, cells := 0, slots := 0, locals := 47 } : Room)).room s m ([.ref (ad p0), .int p1] : List Value).toArray below meth c H locs 0 0 (MQ below (va_Qi (fun (r : Int32) (_ : Unit) => r = out.1) (fun _ => ha_H D cs ad mo_kd mo_ln N out.2) (ha_A ad N)) ([.ref (ad p0), .int p1] : List Value).toArray s 0 0 (ha_A ad N)) (F0 m 80 ls []) := by
              intro K hk n
              induction n with
              | zero =>
                intro v2 v3 v5 v6 S H locs ls hf
                exact absurd (show (none : Option (Int32 × ha_St)) = some out from hf) (fun h => by cases h)
              | succ n ih =>
                intro v2 v3 v5 v6 S H locs ls hf  hP hD hS hl
                have J144 : ∀ (v2 : Int32) (v3 : Int32) (v5 : Int32) (v6 : Int32) (S : ha_St) (H : Heap) (locs : List Loc) (ls : Array Slot), (f_X12_small_L80_J144 p0 p1 (f_X12_small_L80i p0 p1 n) v2 v3 v5 v6 S).bind K = some out → va_P D vwCl (ha_wl cs ad mo_kd mo_ln N S) H → va_D (ha_A ad N) (ha_wl cs ad mo_kd mo_ln N S) → va_S (ha_A ad N) s.heap H locs → lv_has ls 8 [(0, .ref (ad p0)), (1, .int p1), (2, .int v2), (3, .int v3), (5, .int v5), (6, .int v6)] → W p l e (headSpec wsX12_small ({ frames := 2, cells := 0, slots := 0, locals := 47 } : Room)).room s m ([.ref (ad p0), .int p1] : List Value).toArray below meth c H locs 0 0 (MQ below (va_Qi (fun (r : Int32) (_ : Unit) => r = out.1) (fun _ => ha_H D cs ad mo_kd mo_ln N out.2) (ha_A ad N)) ([.ref (ad p0), .int p1] : List Value).toArray s 0 0 (ha_A ad N)) (F0 m 144 ls []) := by
                  intro v2 v3 v5 v6 S H locs ls hf  hP hD hS hl
                  unfold f_X12_small_L80_J144 at hf
                  refine lv_iload hx hb dX12_small_144 (lv_at hl 4 rfl) ?_
                  refine lv_aload_n hx hb dX12_small_146 rfl (lv_at hl 0 rfl) ?_
                  refine lv_iload_n hx hb dX12_small_147 rfl (lv_at hl 3 rfl) ?_
                  obtain ⟨z8, wz8, hf⟩ := ha_bds hf
                  refine ha_callVi (As := [.int v3]) (rest := [.int v5]) hZ ⟨hx, hb, hml, hown, hts⟩ hK hz hP hD hS (c_X12_fewestBy hZ hN h0 wz8) cw2 hN h0 (by decide) rfl rfl hl.1 rfl (Nat.le_of_ble_eq_true rfl) dX12_small_148 ⟨Nat.le_of_ble_eq_true rfl, Nat.le_of_ble_eq_true rfl⟩ (fun H locs hP hD hS => ?_)
                  refine lv_iadd hx hb dX12_small_151 ?_
                  refine lv_topi (fun x9 ex9 => ?_)
                  have hf := ha_nms hf ex9
                  refine lv_istore (lv' := [(5, .int x9), (0, .ref (ad p0)), (1, .int p1), (2, .int v2), (3, .int v3), (6, .int v6)]) hx hb dX12_small_152 hl (by decide) rfl (fun ls hl => ?_)
                  obtain ⟨x10, ex10⟩ : ∃ y : Int32, y = (v6 : Int32) + 1 := ⟨_, rfl⟩
                  have hf := ha_nms hf ex10
                  refine lv_iinc (v := x10) (lv' := [(6, .int x10), (5, .int x9), (0, .ref (ad p0)), (1, .int p1), (2, .int v2), (3, .int v3)]) hx hb dX12_small_154 hl (k := 5) rfl (by rw [ex10]; rfl) (by decide) rfl (fun ls hl => ?_)
                  refine lv_goto (tgt := 80) hx hb dX12_small_157 (by decide) ?_
                  exact ih v2 v3 x9 x10 z8.2 H locs ls hf  hP hD hS (lv_sub hl [2, 3, 4, 5, 1, 0] rfl)
                have hf : (f_X12_small_L80 p0 p1 (f_X12_small_L80i p0 p1 n) v2 v3 v5 v6 S).bind K = some out := hf
                unfold f_X12_small_L80 at hf
                refine lv_iload hx hb dX12_small_80 (lv_at hl 5 rfl) ?_
                refine lv_aload_n hx hb dX12_small_82 rfl (lv_at hl 0 rfl) ?_
                refine ha_geti hx hb hown hK hP q377 hN h0 dX12_small_83 ?_
                refine lv_icmp_ge (tgt := 160) hx hb dX12_small_86 (by decide) (fun c11 => ?_) (fun c11 => ?_)
                · have hf := ha_it hf c11
                  exact hk v2 v3 v5 S H locs ls hf  hP hD hS (lv_sub hl [0, 1, 2, 3, 4] rfl)
                · have hf := ha_if hf c11
                  refine lv_iload hx hb dX12_small_89 (lv_at hl 4 rfl) ?_
                  refine lv_iload_n hx hb dX12_small_91 rfl (lv_at hl 2 rfl) ?_
                  refine lv_icmp_ge (tgt := 160) hx hb dX12_small_92 (by decide) (fun c12 => ?_) (fun c12 => ?_)
                  · have hf := ha_it hf c12
                    exact hk v2 v3 v5 S H locs ls hf  hP hD hS (lv_sub hl [0, 1, 2, 3, 4] rfl)
                  · have hf := ha_if hf c12
                    refine lv_aload_n hx hb dX12_small_95 rfl (lv_at hl 0 rfl) ?_
                    refine lv_aload_n hx hb dX12_small_96 rfl (lv_at hl 0 rfl) ?_
                    obtain ⟨r13, wr13, hf⟩ := ha_bds hf
                    obtain ⟨wr13, hr13⟩ := ha_rf_some wr13
                    refine ha_getr hx hb hown hK hP q105 hN h0 wr13 dX12_small_97 ?_
                    refine lv_iload hx hb dX12_small_100 (lv_at hl 5 rfl) ?_
                    obtain ⟨g14, hf⟩ := ha_gds hf
                    refine ha_iald hx hb hK hP hN hr13 g14 dX12_small_102 ?_
                    refine ha_puti hx hb hown hK hP hD hS r365 hN h0 dX12_small_103 (fun S15 H locs eS15 hP hD hS => ?_)
                    have hf := ha_nms hf eS15
                    refine lv_iconst (v := 0) hx hb dX12_small_106 (by decide) ?_
                    refine lv_istore (lv' := [(7, .int 0), (0, .ref (ad p0)), (1, .int p1), (2, .int v2), (3, .int v3), (5, .int v5), (6, .int v6)]) hx hb dX12_small_107 hl (by decide) rfl (fun ls hl => ?_)
                    have key23 : ∀ (K : (Int32 × Int32 × Int32 × Int32 × ha_St) → Option (Int32 × ha_St)), (∀ (v2 : Int32) (v3 : Int32) (v5 : Int32) (v6 : Int32) (S : ha_St) (H : Heap) (locs : List Loc) (ls : Array Slot), K (v2, v3, v5, v6, S) = some out → va_P D vwCl (ha_wl cs ad mo_kd mo_ln N S) H → va_D (ha_A ad N) (ha_wl cs ad mo_kd mo_ln N S) → va_S (ha_A ad N) s.heap H locs → lv_has ls 8 [(0, .ref (ad p0)), (1, .int p1), (2, .int v2), (3, .int v3), (5, .int v5), (6, .int v6)] → W p l e (headSpec wsX12_small ({ frames := 2, cells := 0, slots := 0, locals := 47 } : Room)).room s m ([.ref (ad p0), .int p1] : List Value).toArray below meth c H locs 0 0 (MQ below (va_Qi (fun (r : Int32) (_ : Unit) => r = out.1) (fun _ => ha_H D cs ad mo_kd mo_ln N out.2) (ha_A ad N)) ([.ref (ad p0), .int p1] : List Value).toArray s 0 0 (ha_A ad N)) (F0 m 144 ls [])) → ∀ (n : Nat) (v2 : Int32) (v3 : Int32) (v5 : Int32) (v6 : Int32) (v7 : Int32) (S : ha_St) (H : Heap) (locs : List Loc) (ls : Array Slot), (f_X12_small_L109i p0 p1 n (v2, v3, v5, v6, v7, S)).bind K = some out → va_P D vwCl (ha_wl cs ad mo_kd mo_ln N S) H → va_D (ha_A ad N) (ha_wl cs ad mo_kd mo_ln N S) → va_S (ha_A ad N) s.heap H locs → lv_has ls 8 [(0, .ref (ad p0)), (1, .int p1), (2, .int v2), (3, .int v3), (5, .int v5), (6, .int v6), (7, .int v7)] → W p l e (headSpec wsX12_small ({ frames := 2, cells := 0, slots := 0, locals := 47 } : Room)).room s m ([.ref (ad p0), .int p1] : List Value).toArray below meth c H locs 0 0 (MQ below (va_Qi (fun (r : Int32) (_ : Unit) => r = out.1) (fun _ => ha_H D cs ad mo_kd mo_ln N out.2) (ha_A ad N)) ([.ref (ad p0), .int p1] : List Value).toArray s 0 0 (ha_A ad N)) (F0 m 109 ls []) := by
                      intro K hk n
                      induction n with
                      | zero =>
                        intro v2 v3 v5 v6 v7 S H locs ls hf
                        exact absurd (show (none : Option (Int32 × ha_St)) = some out from hf) (fun h => by cases h)
                      | succ n ih =>
                        intro v2 v3 v5 v6 v7 S H locs ls hf  hP hD hS hl
                        have hf : (f_X12_small_L109 p0 p1 (f_X12_small_L109i p0 p1 n) v2 v3 v5 v6 v7 S).bind K = some out := hf
                        unfold f_X12_small_L109 at hf
                        refine lv_iload hx hb dX12_small_109 (lv_at hl 6 rfl) ?_
                        refine lv_aload_n hx hb dX12_small_111 rfl (lv_at hl 0 rfl) ?_
                        refine ha_geti hx hb hown hK hP q365 hN h0 dX12_small_112 ?_
                        refine lv_icmp_ge (tgt := 144) hx hb dX12_small_115 (by decide) (fun c16 => ?_) (fun c16 => ?_)
                        · have hf := ha_it hf c16
                          exact hk v2 v3 v5 v6 S H locs ls hf  hP hD hS (lv_sub hl [0, 1, 2, 3, 4, 5] rfl)
                        · have hf := ha_if hf c16
                          refine lv_aload_n hx hb dX12_small_118 rfl (lv_at hl 0 rfl) ?_
                          obtain ⟨r17, wr17, hf⟩ := ha_bds hf
                          obtain ⟨wr17, hr17⟩ := ha_rf_some wr17
                          refine ha_getr hx hb hown hK hP q108 hN h0 wr17 dX12_small_119 ?_
                          refine lv_iload hx hb dX12_small_122 (lv_at hl 6 rfl) ?_
                          refine lv_aload_n hx hb dX12_small_124 rfl (lv_at hl 0 rfl) ?_
                          obtain ⟨r18, wr18, hf⟩ := ha_bds hf
                          obtain ⟨wr18, hr18⟩ := ha_rf_some wr18
                          refine ha_getr hx hb hown hK hP q102 hN h0 wr18 dX12_small_125 ?_
                          refine lv_bipush (v := 60) hx hb dX12_small_128 (by decide) ?_
                          refine lv_iload hx hb dX12_small_130 (lv_at hl 5 rfl) ?_
                          refine lv_imul hx hb dX12_small_132 ?_
                          refine lv_iload hx hb dX12_small_133 (lv_at hl 6 rfl) ?_
                          refine lv_iadd hx hb dX12_small_135 ?_
                          obtain ⟨g19, hf⟩ := ha_gds hf
                          refine ha_iald hx hb hK hP hN hr18 g19 dX12_small_136 ?_
                          obtain ⟨g20, hf⟩ := ha_gds hf
                          refine ha_iast hx hb hK hP hD hS hN hr17 g20 dX12_small_137 (fun S21 H locs eS21 hP hD hS => ?_)
                          have hf := ha_nms hf eS21
                          obtain ⟨x22, ex22⟩ : ∃ y : Int32, y = (v7 : Int32) + 1 := ⟨_, rfl⟩
                          have hf := ha_nms hf ex22
                          refine lv_iinc (v := x22) (lv' := [(7, .int x22), (0, .ref (ad p0)), (1, .int p1), (2, .int v2), (3, .int v3), (5, .int v5), (6, .int v6)]) hx hb dX12_small_138 hl (k := 6) rfl (by rw [ex22]; rfl) (by decide) rfl (fun ls hl => ?_)
                          refine lv_goto (tgt := 109) hx hb dX12_small_141 (by decide) ?_
                          exact ih v2 v3 v5 v6 x22 S21 H locs ls hf  hP hD hS (lv_sub hl [1, 2, 3, 4, 5, 6, 0] rfl)
                    refine key23 _ (fun v2 v3 v5 v6 S H locs ls hf  hP hD hS hl => ?_) ha_fu v2 v3 v5 v6 0 S15 H locs ls (ha_as hf)  hP hD hS (lv_sub hl [1, 2, 3, 4, 5, 6, 0] rfl)
                    have hf : (f_X12_small_L80_J144 p0 p1 (f_X12_small_L80i p0 p1 n) v2 v3 v5 v6 S).bind K = some out := hf
                    exact J144 v2 v3 v5 v6 S H locs ls hf  hP hD hS (lv_sub hl [0, 1, 2, 3, 4, 5] rfl)
            refine key25 _ (fun v2 v3 v5 S H locs ls hf  hP hD hS hl => ?_) ha_fu v2 v3 0 0 S H locs ls (ha_as hf)  hP hD hS (lv_sub hl [2, 3, 4, 5, 1, 0] rfl)
            have hf : (f_X12_small_L23_J160 p0 p1 (f_X12_small_L23i p0 p1 n) v2 v3 v5 S).bind K = some out := hf
            exact J160 v2 v3 v5 S H locs ls hf  hP hD hS (lv_sub hl [0, 1, 2, 3, 4] rfl)
          · have hf := ha_if hf c7
            refine lv_goto (tgt := 177) hx hb dX12_small_71 (by decide) ?_
            exact J177 v2 v3 S H locs ls hf  hP hD hS (lv_sub hl [0, 1, 2, 3] rfl)
        have hf : (f_X12_small_L23 p0 p1 (f_X12_small_L23i p0 p1 n) v2 v3 S).bind K = some out := hf
        unfold f_X12_small_L23 at hf
        refine lv_iload_n hx hb dX12_small_23 rfl (lv_at hl 3 rfl) ?_
        refine lv_iconst (v := 1) hx hb dX12_small_24 (by decide) ?_
        refine lv_aload_n hx hb dX12_small_25 rfl (lv_at hl 0 rfl) ?_
        refine ha_geti hx hb hown hK hP q359 hN h0 dX12_small_26 ?_
        refine lv_ishl hx hb dX12_small_29 ?_
        refine lv_icmp_ge (tgt := 183) hx hb dX12_small_30 (by decide) (fun c27 => ?_) (fun c27 => ?_)
        · have hf := ha_it hf c27
          exact hk v2 S H locs ls hf  hP hD hS (lv_sub hl [0, 1, 2] rfl)
        · have hf := ha_if hf c27
          refine lv_iconst (v := 0) hx hb dX12_small_33 (by decide) ?_
          refine lv_istore (lv' := [(4, .int 0), (0, .ref (ad p0)), (1, .int p1), (2, .int v2), (3, .int v3)]) hx hb dX12_small_34 hl (by decide) rfl (fun ls hl => ?_)
          refine lv_iconst (v := 0) hx hb dX12_small_36 (by decide) ?_
          refine lv_istore (lv' := [(5, .int 0), (4, .int 0), (0, .ref (ad p0)), (1, .int p1), (2, .int v2), (3, .int v3)]) hx hb dX12_small_37 hl (by decide) rfl (fun ls hl => ?_)
          have key31 : ∀ (K : (Int32 × Int32 × Int32 × ha_St) → Option (Int32 × ha_St)), (∀ (v2 : Int32) (v3 : Int32) (v4 : Int32) (S : ha_St) (H : Heap) (locs : List Loc) (ls : Array Slot), K (v2, v3, v4, S) = some out → va_P D vwCl (ha_wl cs ad mo_kd mo_ln N S) H → va_D (ha_A ad N) (ha_wl cs ad mo_kd mo_ln N S) → va_S (ha_A ad N) s.heap H locs → lv_has ls 8 [(0, .ref (ad p0)), (1, .int p1), (2, .int v2), (3, .int v3), (4, .int v4)] → W p l e (headSpec wsX12_small ({ frames := 2, cells := 0, slots := 0, locals := 47 } : Room)).room s m ([.ref (ad p0), .int p1] : List Value).toArray below meth c H locs 0 0 (MQ below (va_Qi (fun (r : Int32) (_ : Unit) => r = out.1) (fun _ => ha_H D cs ad mo_kd mo_ln N out.2) (ha_A ad N)) ([.ref (ad p0), .int p1] : List Value).toArray s 0 0 (ha_A ad N)) (F0 m 65 ls [])) → ∀ (n : Nat) (v2 : Int32) (v3 : Int32) (v4 : Int32) (v5 : Int32) (S : ha_St) (H : Heap) (locs : List Loc) (ls : Array Slot), (f_X12_small_L39i p0 p1 n (v2, v3, v4, v5, S)).bind K = some out → va_P D vwCl (ha_wl cs ad mo_kd mo_ln N S) H → va_D (ha_A ad N) (ha_wl cs ad mo_kd mo_ln N S) → va_S (ha_A ad N) s.heap H locs → lv_has ls 8 [(0, .ref (ad p0)), (1, .int p1), (2, .int v2), (3, .int v3), (4, .int v4), (5, .int v5)] → W p l e (headSpec wsX12_small ({ frames := 2, cells := 0, slots := 0, locals := 47 } : Room)).room s m ([.ref (ad p0), .int p1] : List Value).toArray below meth c H locs 0 0 (MQ below (va_Qi (fun (r : Int32) (_ : Unit) => r = out.1) (fun _ => ha_H D cs ad mo_kd mo_ln N out.2) (ha_A ad N)) ([.ref (ad p0), .int p1] : List Value).toArray s 0 0 (ha_A ad N)) (F0 m 39 ls []) := by
            intro K hk n
            induction n with
            | zero =>
              intro v2 v3 v4 v5 S H locs ls hf
              exact absurd (show (none : Option (Int32 × ha_St)) = some out from hf) (fun h => by cases h)
            | succ n ih =>
              intro v2 v3 v4 v5 S H locs ls hf  hP hD hS hl
              have hf : (f_X12_small_L39 p0 p1 (f_X12_small_L39i p0 p1 n) v2 v3 v4 v5 S).bind K = some out := hf
              unfold f_X12_small_L39 at hf
              refine lv_iload hx hb dX12_small_39 (lv_at hl 5 rfl) ?_
              refine lv_aload_n hx hb dX12_small_41 rfl (lv_at hl 0 rfl) ?_
              refine ha_geti hx hb hown hK hP q359 hN h0 dX12_small_42 ?_
              refine lv_icmp_ge (tgt := 65) hx hb dX12_small_45 (by decide) (fun c28 => ?_) (fun c28 => ?_)
              · have hf := ha_it hf c28
                exact hk v2 v3 v4 S H locs ls hf  hP hD hS (lv_sub hl [0, 1, 2, 3, 4] rfl)
              · have hf := ha_if hf c28
                refine lv_iload hx hb dX12_small_48 (lv_at hl 4 rfl) ?_
                refine lv_iload_n hx hb dX12_small_50 rfl (lv_at hl 3 rfl) ?_
                refine lv_iload hx hb dX12_small_51 (lv_at hl 5 rfl) ?_
                refine lv_ishr hx hb dX12_small_53 ?_
                refine lv_iconst (v := 1) hx hb dX12_small_54 (by decide) ?_
                refine lv_iand hx hb dX12_small_55 ?_
                refine lv_iadd hx hb dX12_small_56 ?_
                refine lv_topi (fun x29 ex29 => ?_)
                have hf := ha_nms hf ex29
                refine lv_istore (lv' := [(4, .int x29), (0, .ref (ad p0)), (1, .int p1), (2, .int v2), (3, .int v3), (5, .int v5)]) hx hb dX12_small_57 hl (by decide) rfl (fun ls hl => ?_)
                obtain ⟨x30, ex30⟩ : ∃ y : Int32, y = (v5 : Int32) + 1 := ⟨_, rfl⟩
                have hf := ha_nms hf ex30
                refine lv_iinc (v := x30) (lv' := [(5, .int x30), (4, .int x29), (0, .ref (ad p0)), (1, .int p1), (2, .int v2), (3, .int v3)]) hx hb dX12_small_59 hl (k := 5) rfl (by rw [ex30]; rfl) (by decide) rfl (fun ls hl => ?_)
                refine lv_goto (tgt := 39) hx hb dX12_small_62 (by decide) ?_
                exact ih v2 v3 x29 x30 S H locs ls hf  hP hD hS (lv_sub hl [2, 3, 4, 5, 1, 0] rfl)
          refine key31 _ (fun v2 v3 v4 S H locs ls hf  hP hD hS hl => ?_) ha_fu v2 v3 0 0 S H locs ls (ha_as hf)  hP hD hS (lv_sub hl [2, 3, 4, 5, 1, 0] rfl)
          have hf : (f_X12_small_L23_J65 p0 p1 (f_X12_small_L23i p0 p1 n) v2 v3 v4 S).bind K = some out := hf
          exact J65 v2 v3 v4 S H locs ls hf  hP hD hS (lv_sub hl [0, 1, 2, 3, 4] rfl)
    refine key33 _ (fun v2 S H locs ls hf  hP hD hS hl => ?_) ha_fu 100000 0 S1 H locs ls (ha_as hf)  hP hD hS (lv_sub hl [2, 3, 1, 0] rfl)
    have hf : (f_X12_small_J183 p0 p1 v2 S).bind some = some out := hf
    exact J183 v2 S H locs ls hf  hP hD hS (lv_sub hl [0, 1, 2] rfl)
  · have hf := ha_if hf (fun q => q c3)
    refine lv_iconst (v := (-1)) hx hb dX12_small_15 (by decide) ?_
    have he := Option.some.inj hf
    exact ha_reti hx hb hr hlocks hP hD hS dX12_small_16 (ha_e1 he) (ha_e2 he)

set_option maxHeartbeats 4000000 in
set_option maxRecDepth 100000 in
theorem c_X12_smallSet {l : Launch} {D : va_G} {cs : Nat → ClassId} {ad : Nat → Nat} {N : List Nat} {Z : State → Prop} (hZ : ha_Zok (ha_A ad N) Z) (hN : ∀ x, mo_kd x < 999 → x ∈ N) {p0 : Nat} {S : ha_St} {out : Int32 × ha_St} (h0 : mo_kd p0 = 12) (hf : f_X12_smallSet p0 S = some out) : ha_Ci l D cs ad mo_kd mo_ln N Z yX12_smallSet wsX12_smallSet ({ frames := 0, cells := 0, slots := 0, locals := 0 } : Room) [.ref (ad p0)] S out.1 out.2 := by
  refine Met.ofW (cc := cX12_smallSet) (maxL := 1) (ret := (some .int)) (by decide +kernel) rfl ?_
  intro p e s m args below meth c s₁ B hml hv
  obtain ⟨rfl, hP, hD, hK, hz⟩ := hv
  have hx := B.exec
  have hb := B.bytes
  have hr := B.returns
  have hts := atoms_spec (ws := wsX12_smallSet) B.pre
  have hown : s.vm.findClass RX12 = some m.cls := findClass_of_methodNamed B.named
  have hlocks := B.notSynchronized
  have hS : va_S (ha_A ad N) s.heap s.heap [] := va_S.rf
  have hi12 : ∀ w ∈ wsX120, w ∈ wsX12_smallSet := fun w h => List.mem_cons_of_mem _ (List.mem_append_right _ h)
  have q117 : ha_Fk s ([.ref (ad p0)] : List Value).toArray RX12 117 12 74 0 := ⟨RX12, TX12, 83, wsX12_smallSet, rfl, by decide, by decide, rfl, rfl, hts, hi12, hts (.fieldLink RX12 117 "HillArmsModel" "smallSet" "I") (by decide +kernel)⟩
  have r138 : ha_Fp s ([.ref (ad p0)] : List Value).toArray RX12 138 12 0 0 .int := ⟨RX12, TX12, 83, wsX12_smallSet, tyX12, rfl, by decide, by decide, rfl, rfl, hts, hi12, hts (.fieldLink RX12 138 "HillArmsModel" "thrown" "I") (by decide +kernel), tyX12_ok, nmX12, rfl, by decide +kernel⟩
  have hl := lv_entry ([.ref (ad p0)]) (n := 1) (Nat.le_of_ble_eq_true rfl)
  rw [lg_entry_eq]
  generalize (lg_sl ([.ref (ad p0)]) ++ List.replicate (1 - (lg_sl ([.ref (ad p0)])).length) Slot.unset).toArray = ls at hl ⊢
  have hl : lv_has ls 1 [(0, .ref (ad p0))] := hl
  refine (fun (K0 : ∀ (H : Heap) (locs : List Loc), va_P D vwCl (ha_wl cs ad mo_kd mo_ln N S) H → va_S (ha_A ad N) s.heap H locs → W p l e (headSpec wsX12_smallSet ({ frames := 0, cells := 0, slots := 0, locals := 0 } : Room)).room s m ([.ref (ad p0)] : List Value).toArray below meth c H locs 0 0 (MQ below (va_Qi (fun (r : Int32) (_ : Unit) => r = out.1) (fun _ => ha_H D cs ad mo_kd mo_ln N out.2) (ha_A ad N)) ([.ref (ad p0)] : List Value).toArray s 0 0 (ha_A ad N)) (F0 m 0 ls [])) => K0 _ _ hP hS) ?_
  intro H locs hP hS
  have hf := ha_rt hf
  unfold f_X12_smallSet at hf
  refine lv_aload_n hx hb dX12_smallSet_0 rfl (lv_at hl 0 rfl) ?_
  refine lv_iconst (v := 0) hx hb dX12_smallSet_1 (by decide) ?_
  refine ha_puti hx hb hown hK hP hD hS r138 hN h0 dX12_smallSet_2 (fun S1 H locs eS1 hP hD hS => ?_)
  have hf := ha_nms hf eS1
  refine lv_aload_n hx hb dX12_smallSet_5 rfl (lv_at hl 0 rfl) ?_
  refine ha_geti hx hb hown hK hP q117 hN h0 dX12_smallSet_6 ?_
  have he := Option.some.inj hf
  exact ha_reti hx hb hr hlocks hP hD hS dX12_smallSet_9 (ha_e1 he) (ha_e2 he)

set_option maxHeartbeats 4000000 in
set_option maxRecDepth 100000 in
theorem c_X12_right {l : Launch} {D : va_G} {cs : Nat → ClassId} {ad : Nat → Nat} {N : List Nat} {Z : State → Prop} (hZ : ha_Zok (ha_A ad N) Z) (hN : ∀ x, mo_kd x < 999 → x ∈ N) {p0 : Nat} {p1 : Int32} {p2 : Int32} {p3 : Int32} {S : ha_St} {out : Int64 × ha_St} (h0 : mo_kd p0 = 12) (hf : f_X12_right p0 p1 p2 p3 S = some out) : ha_Cl l D cs ad mo_kd mo_ln N Z yX12_right wsX12_right ({ frames := 1, cells := 0, slots := 0, locals := 22 } : Room) [.ref (ad p0), .int p1, .int p2, .int p3] S out.1 out.2 := by
  refine Met.ofW (cc := cX12_right) (maxL := 7) (ret := (some .long)) (by decide +kernel) rfl ?_
  intro p e s m args below meth c s₁ B hml hv
  obtain ⟨rfl, hP, hD, hK, hz⟩ := hv
  have hx := B.exec
  have hb := B.bytes
  have hr := B.returns
  have hts := atoms_spec (ws := wsX12_right) B.pre
  have hown : s.vm.findClass RX12 = some m.cls := findClass_of_methodNamed B.named
  have hlocks := B.notSynchronized
  have hS : va_S (ha_A ad N) s.heap s.heap [] := va_S.rf
  have hi12 : ∀ w ∈ wsX120, w ∈ wsX12_right := fun w h => List.mem_cons_of_mem _ (List.mem_append_right _ h)
  have q138 : ha_Fk s ([.ref (ad p0), .int p1, .int p2, .int p3] : List Value).toArray RX12 138 12 0 0 := ⟨RX12, TX12, 83, wsX12_right, rfl, by decide, by decide, rfl, rfl, hts, hi12, hts (.fieldLink RX12 138 "HillArmsModel" "thrown" "I") (by decide +kernel)⟩
  have r138 : ha_Fp s ([.ref (ad p0), .int p1, .int p2, .int p3] : List Value).toArray RX12 138 12 0 0 .int := ⟨RX12, TX12, 83, wsX12_right, tyX12, rfl, by decide, by decide, rfl, rfl, hts, hi12, hts (.fieldLink RX12 138 "HillArmsModel" "thrown" "I") (by decide +kernel), tyX12_ok, nmX12, rfl, by decide +kernel⟩
  have cn381 := hts (.constantLong RX12 381 (1000000000000000)) (by decide +kernel)
  have cw1 := va_cwS (R := (headSpec wsX12_right ({ frames := 1, cells := 0, slots := 0, locals := 22 } : Room)).room) 3 hts gX12_right_X12_isIn (rm := ({ frames := 0, cells := 0, slots := 0, locals := 0 } : Room)) (mc := 0) (ms := 0) rfl rfl rfl (by decide +kernel) ⟨Nat.le_of_ble_eq_true rfl, Nat.le_of_ble_eq_true rfl⟩
  have hl := lv_entry ([.ref (ad p0), .int p1, .int p2, .int p3]) (n := 7) (Nat.le_of_ble_eq_true rfl)
  rw [lg_entry_eq]
  generalize (lg_sl ([.ref (ad p0), .int p1, .int p2, .int p3]) ++ List.replicate (7 - (lg_sl ([.ref (ad p0), .int p1, .int p2, .int p3])).length) Slot.unset).toArray = ls at hl ⊢
  have hl : lv_has ls 7 [(0, .ref (ad p0)), (1, .int p1), (2, .int p2), (3, .int p3)] := hl
  refine (fun (K0 : ∀ (H : Heap) (locs : List Loc), va_P D vwCl (ha_wl cs ad mo_kd mo_ln N S) H → va_S (ha_A ad N) s.heap H locs → W p l e (headSpec wsX12_right ({ frames := 1, cells := 0, slots := 0, locals := 22 } : Room)).room s m ([.ref (ad p0), .int p1, .int p2, .int p3] : List Value).toArray below meth c H locs 0 0 (MQ below (va_Ql (fun (r : Int64) (_ : Unit) => r = out.1) (fun _ => ha_H D cs ad mo_kd mo_ln N out.2) (ha_A ad N)) ([.ref (ad p0), .int p1, .int p2, .int p3] : List Value).toArray s 0 0 (ha_A ad N)) (F0 m 0 ls [])) => K0 _ _ hP hS) ?_
  intro H locs hP hS
  have hf := ha_rt hf
  have J83 : ∀ (v4 : Int64) (S : ha_St) (H : Heap) (locs : List Loc) (ls : Array Slot), (f_X12_right_J83 p0 p1 p2 p3 v4 S).bind some = some out → va_P D vwCl (ha_wl cs ad mo_kd mo_ln N S) H → va_D (ha_A ad N) (ha_wl cs ad mo_kd mo_ln N S) → va_S (ha_A ad N) s.heap H locs → lv_has ls 7 [(0, .ref (ad p0)), (1, .int p1), (2, .int p2), (3, .int p3), (4, .long v4)] → W p l e (headSpec wsX12_right ({ frames := 1, cells := 0, slots := 0, locals := 22 } : Room)).room s m ([.ref (ad p0), .int p1, .int p2, .int p3] : List Value).toArray below meth c H locs 0 0 (MQ below (va_Ql (fun (r : Int64) (_ : Unit) => r = out.1) (fun _ => ha_H D cs ad mo_kd mo_ln N out.2) (ha_A ad N)) ([.ref (ad p0), .int p1, .int p2, .int p3] : List Value).toArray s 0 0 (ha_A ad N)) (F0 m 83 ls []) := by
    intro v4 S H locs ls hf  hP hD hS hl
    unfold f_X12_right_J83 at hf
    refine lv_lload hx hb dX12_right_83 (lv_at hl 4 rfl) ?_
    have he := Option.some.inj hf
    exact ha_retl hx hb hr hlocks hP hD hS dX12_right_85 (ha_e1 he) (ha_e2 he)
  have J37 : ∀ (k0 : Nat) (k1 : Int32) (S : ha_St) (H : Heap) (locs : List Loc) (ls : Array Slot), (f_X12_right_J37 p0 p1 p2 p3 k0 k1 S).bind some = some out → mo_kd k0 = 12 → va_P D vwCl (ha_wl cs ad mo_kd mo_ln N S) H → va_D (ha_A ad N) (ha_wl cs ad mo_kd mo_ln N S) → va_S (ha_A ad N) s.heap H locs → lv_has ls 7 [(0, .ref (ad p0)), (1, .int p1), (2, .int p2), (3, .int p3)] → W p l e (headSpec wsX12_right ({ frames := 1, cells := 0, slots := 0, locals := 22 } : Room)).room s m ([.ref (ad p0), .int p1, .int p2, .int p3] : List Value).toArray below meth c H locs 0 0 (MQ below (va_Ql (fun (r : Int64) (_ : Unit) => r = out.1) (fun _ => ha_H D cs ad mo_kd mo_ln N out.2) (ha_A ad N)) ([.ref (ad p0), .int p1, .int p2, .int p3] : List Value).toArray s 0 0 (ha_A ad N)) (F0 m 37 ls [.int k1, .ref (ad k0)]) := by
    intro k0 k1 S H locs ls hf hk0 hP hD hS hl
    unfold f_X12_right_J37 at hf
    refine ha_puti hx hb hown hK hP hD hS r138 hN hk0 dX12_right_37 (fun S1 H locs eS1 hP hD hS => ?_)
    have hf := ha_nms hf eS1
    refine lv_aload_n hx hb dX12_right_40 rfl (lv_at hl 0 rfl) ?_
    refine ha_geti hx hb hown hK hP q138 hN h0 dX12_right_41 ?_
    refine lv_if_le (tgt := 49) hx hb dX12_right_44 (by decide) (fun c2 => ?_) (fun c2 => ?_)
    · have hf := ha_it hf c2
      refine lv_ldc2 hx hb hown cn381 dX12_right_49 ?_
      refine lv_lstore (lv' := [(4, .long 1000000000000000), (0, .ref (ad p0)), (1, .int p1), (2, .int p2), (3, .int p3)]) hx hb dX12_right_52 hl (by decide) rfl (fun ls hl => ?_)
      refine lv_iconst (v := 0) hx hb dX12_right_54 (by decide) ?_
      refine lv_istore (lv' := [(6, .int 0), (4, .long 1000000000000000), (0, .ref (ad p0)), (1, .int p1), (2, .int p2), (3, .int p3)]) hx hb dX12_right_55 hl (by decide) rfl (fun ls hl => ?_)
      have key7 : ∀ (K : (Int64 × ha_St) → Option (Int64 × ha_St)), (∀ (v4 : Int64) (S : ha_St) (H : Heap) (locs : List Loc) (ls : Array Slot), K (v4, S) = some out → va_P D vwCl (ha_wl cs ad mo_kd mo_ln N S) H → va_D (ha_A ad N) (ha_wl cs ad mo_kd mo_ln N S) → va_S (ha_A ad N) s.heap H locs → lv_has ls 7 [(0, .ref (ad p0)), (1, .int p1), (2, .int p2), (3, .int p3), (4, .long v4)] → W p l e (headSpec wsX12_right ({ frames := 1, cells := 0, slots := 0, locals := 22 } : Room)).room s m ([.ref (ad p0), .int p1, .int p2, .int p3] : List Value).toArray below meth c H locs 0 0 (MQ below (va_Ql (fun (r : Int64) (_ : Unit) => r = out.1) (fun _ => ha_H D cs ad mo_kd mo_ln N out.2) (ha_A ad N)) ([.ref (ad p0), .int p1, .int p2, .int p3] : List Value).toArray s 0 0 (ha_A ad N)) (F0 m 83 ls [])) → ∀ (n : Nat) (v4 : Int64) (v6 : Int32) (S : ha_St) (H : Heap) (locs : List Loc) (ls : Array Slot), (f_X12_right_L57i p0 p1 p2 p3 n (v4, v6, S)).bind K = some out → va_P D vwCl (ha_wl cs ad mo_kd mo_ln N S) H → va_D (ha_A ad N) (ha_wl cs ad mo_kd mo_ln N S) → va_S (ha_A ad N) s.heap H locs → lv_has ls 7 [(0, .ref (ad p0)), (1, .int p1), (2, .int p2), (3, .int p3), (4, .long v4), (6, .int v6)] → W p l e (headSpec wsX12_right ({ frames := 1, cells := 0, slots := 0, locals := 22 } : Room)).room s m ([.ref (ad p0), .int p1, .int p2, .int p3] : List Value).toArray below meth c H locs 0 0 (MQ below (va_Ql (fun (r : Int64) (_ : Unit) => r = out.1) (fun _ => ha_H D cs ad mo_kd mo_ln N out.2) (ha_A ad N)) ([.ref (ad p0), .int p1, .int p2, .int p3] : List Value).toArray s 0 0 (ha_A ad N)) (F0 m 57 ls []) := by
        intro K hk n
        induction n with
        | zero =>
          intro v4 v6 S H locs ls hf
          exact absurd (show (none : Option (Int64 × ha_St)) = some out from hf) (fun h => by cases h)
        | succ n ih =>
          intro v4 v6 S H locs ls hf  hP hD hS hl
          have hf : (f_X12_right_L57 p0 p1 p2 p3 (f_X12_right_L57i p0 p1 p2 p3 n) v4 v6 S).bind K = some out := hf
          unfold f_X12_right_L57 at hf
          refine lv_iload hx hb dX12_right_57 (lv_at hl 5 rfl) ?_
          refine lv_iload_n hx hb dX12_right_59 rfl (lv_at hl 1 rfl) ?_
          refine lv_iload_n hx hb dX12_right_60 rfl (lv_at hl 2 rfl) ?_
          refine lv_imul hx hb dX12_right_61 ?_
          refine lv_icmp_ge (tgt := 83) hx hb dX12_right_62 (by decide) (fun c3 => ?_) (fun c3 => ?_)
          · have hf := ha_it hf c3
            exact hk v4 S H locs ls hf  hP hD hS (lv_sub hl [0, 1, 2, 3, 4] rfl)
          · have hf := ha_if hf c3
            refine lv_lload hx hb dX12_right_65 (lv_at hl 4 rfl) ?_
            refine lv_iload_n hx hb dX12_right_67 rfl (lv_at hl 3 rfl) ?_
            refine lv_iconst (v := 1) hx hb dX12_right_68 (by decide) ?_
            refine lv_isub hx hb dX12_right_69 ?_
            refine lv_i2l (v := ((((p3 : Int32) - 1) : Int32).toInt64)) hx hb dX12_right_70 rfl ?_
            refine lv_lmul hx hb dX12_right_71 ?_
            refine lv_iload_n hx hb dX12_right_72 rfl (lv_at hl 3 rfl) ?_
            refine lv_i2l (v := ((p3 : Int32).toInt64)) hx hb dX12_right_73 rfl ?_
            obtain ⟨g4, hf⟩ := ha_gds hf
            refine lv_ldiv hx hb dX12_right_74 g4 ?_
            refine lv_topl (fun x5 ex5 => ?_)
            have hf := ha_nms hf ex5
            refine lv_lstore (lv' := [(4, .long x5), (0, .ref (ad p0)), (1, .int p1), (2, .int p2), (3, .int p3), (6, .int v6)]) hx hb dX12_right_75 hl (by decide) rfl (fun ls hl => ?_)
            obtain ⟨x6, ex6⟩ : ∃ y : Int32, y = (v6 : Int32) + 1 := ⟨_, rfl⟩
            have hf := ha_nms hf ex6
            refine lv_iinc (v := x6) (lv' := [(6, .int x6), (4, .long x5), (0, .ref (ad p0)), (1, .int p1), (2, .int p2), (3, .int p3)]) hx hb dX12_right_77 hl (k := 5) rfl (by rw [ex6]; rfl) (by decide) rfl (fun ls hl => ?_)
            refine lv_goto (tgt := 57) hx hb dX12_right_80 (by decide) ?_
            exact ih x5 x6 S H locs ls hf  hP hD hS (lv_sub hl [2, 3, 4, 5, 1, 0] rfl)
      refine key7 _ (fun v4 S H locs ls hf  hP hD hS hl => ?_) ha_fu 1000000000000000 0 S1 H locs ls (ha_as hf)  hP hD hS (lv_sub hl [2, 3, 4, 5, 1, 0] rfl)
      have hf : (f_X12_right_J83 p0 p1 p2 p3 v4 S).bind some = some out := hf
      exact J83 v4 S H locs ls hf  hP hD hS (lv_sub hl [0, 1, 2, 3, 4] rfl)
    · have hf := ha_if hf c2
      refine lv_lconst (v := 0) hx hb dX12_right_47 (by decide) ?_
      have he := Option.some.inj hf
      exact ha_retl hx hb hr hlocks hP hD hS dX12_right_48 (ha_e1 he) (ha_e2 he)
  have J36 : ∀ (k0 : Nat) (S : ha_St) (H : Heap) (locs : List Loc) (ls : Array Slot), (f_X12_right_J36 p0 p1 p2 p3 k0 S).bind some = some out → mo_kd k0 = 12 → va_P D vwCl (ha_wl cs ad mo_kd mo_ln N S) H → va_D (ha_A ad N) (ha_wl cs ad mo_kd mo_ln N S) → va_S (ha_A ad N) s.heap H locs → lv_has ls 7 [(0, .ref (ad p0)), (1, .int p1), (2, .int p2), (3, .int p3)] → W p l e (headSpec wsX12_right ({ frames := 1, cells := 0, slots := 0, locals := 22 } : Room)).room s m ([.ref (ad p0), .int p1, .int p2, .int p3] : List Value).toArray below meth c H locs 0 0 (MQ below (va_Ql (fun (r : Int64) (_ : Unit) => r = out.1) (fun _ => ha_H D cs ad mo_kd mo_ln N out.2) (ha_A ad N)) ([.ref (ad p0), .int p1, .int p2, .int p3] : List Value).toArray s 0 0 (ha_A ad N)) (F0 m 36 ls [.ref (ad k0)]) := by
    intro k0 S H locs ls hf hk0 hP hD hS hl
    unfold f_X12_right_J36 at hf
    refine lv_iconst (v := 1) hx hb dX12_right_36 (by decide) ?_
    exact J37 k0 1 S H locs ls hf hk0 hP hD hS (lv_sub hl [0, 1, 2, 3] rfl)
  unfold f_X12_right at hf
  refine lv_aload_n hx hb dX12_right_0 rfl (lv_at hl 0 rfl) ?_
  refine lv_iload_n hx hb dX12_right_1 rfl (lv_at hl 1 rfl) ?_
  refine lv_iconst (v := 1) hx hb dX12_right_2 (by decide) ?_
  refine lv_bipush (v := 60) hx hb dX12_right_3 (by decide) ?_
  obtain ⟨z9, wz9, hf⟩ := ha_bds hf
  refine ha_callSi (As := [.int p1, .int 1, .int 60]) (rest := [.ref (ad p0)]) hZ ⟨hx, hb, hml, hown, hts⟩ hK hz hP hD hS (c_X12_isIn   wz9) cw1 rfl hl.1 rfl (Nat.le_of_ble_eq_true rfl) dX12_right_5 ⟨Nat.le_of_ble_eq_true rfl, Nat.le_of_ble_eq_true rfl⟩ (fun H locs hP hD hS => ?_)
  refine lv_if_eq (tgt := 36) hx hb dX12_right_8 (by decide) (fun c10 => ?_) (fun c10 => ?_)
  · have hf := ha_it hf c10
    exact J36 p0 S H locs ls hf h0 hP hD hS (lv_sub hl [0, 1, 2, 3] rfl)
  · have hf := ha_if hf c10
    refine lv_iload_n hx hb dX12_right_11 rfl (lv_at hl 2 rfl) ?_
    refine lv_iconst (v := 1) hx hb dX12_right_12 (by decide) ?_
    refine lv_bipush (v := 16) hx hb dX12_right_13 (by decide) ?_
    obtain ⟨z11, wz11, hf⟩ := ha_bds hf
    refine ha_callSi (As := [.int p2, .int 1, .int 16]) (rest := [.ref (ad p0)]) hZ ⟨hx, hb, hml, hown, hts⟩ hK hz hP hD hS (c_X12_isIn   wz11) cw1 rfl hl.1 rfl (Nat.le_of_ble_eq_true rfl) dX12_right_15 ⟨Nat.le_of_ble_eq_true rfl, Nat.le_of_ble_eq_true rfl⟩ (fun H locs hP hD hS => ?_)
    refine lv_if_eq (tgt := 36) hx hb dX12_right_18 (by decide) (fun c12 => ?_) (fun c12 => ?_)
    · have hf := ha_it hf c12
      exact J36 p0 S H locs ls hf h0 hP hD hS (lv_sub hl [0, 1, 2, 3] rfl)
    · have hf := ha_if hf c12
      refine lv_iload_n hx hb dX12_right_21 rfl (lv_at hl 3 rfl) ?_
      refine lv_iconst (v := 2) hx hb dX12_right_22 (by decide) ?_
      refine lv_sipush (v := 2000) hx hb dX12_right_23 (by decide) ?_
      obtain ⟨z13, wz13, hf⟩ := ha_bds hf
      refine ha_callSi (As := [.int p3, .int 2, .int 2000]) (rest := [.ref (ad p0)]) hZ ⟨hx, hb, hml, hown, hts⟩ hK hz hP hD hS (c_X12_isIn   wz13) cw1 rfl hl.1 rfl (Nat.le_of_ble_eq_true rfl) dX12_right_26 ⟨Nat.le_of_ble_eq_true rfl, Nat.le_of_ble_eq_true rfl⟩ (fun H locs hP hD hS => ?_)
      refine lv_if_eq (tgt := 36) hx hb dX12_right_29 (by decide) (fun c14 => ?_) (fun c14 => ?_)
      · have hf := ha_it hf c14
        exact J36 p0 S H locs ls hf h0 hP hD hS (lv_sub hl [0, 1, 2, 3] rfl)
      · have hf := ha_if hf c14
        refine lv_iconst (v := 0) hx hb dX12_right_32 (by decide) ?_
        refine lv_goto (tgt := 37) hx hb dX12_right_33 (by decide) ?_
        exact J37 p0 0 S H locs ls hf h0 hP hD hS (lv_sub hl [0, 1, 2, 3] rfl)

set_option maxHeartbeats 4000000 in
set_option maxRecDepth 100000 in
theorem c_X12_note {l : Launch} {D : va_G} {cs : Nat → ClassId} {ad : Nat → Nat} {N : List Nat} {Z : State → Prop} (hZ : ha_Zok (ha_A ad N) Z) (hN : ∀ x, mo_kd x < 999 → x ∈ N) {p0 : Nat} {p1 : Int32} {p2 : Int32} {p3 : Int32} {S : ha_St} {out : Int32 × ha_St} (h0 : mo_kd p0 = 12) (hf : f_X12_note p0 p1 p2 p3 S = some out) : ha_Ci l D cs ad mo_kd mo_ln N Z yX12_note wsX12_note ({ frames := 1, cells := 0, slots := 0, locals := 22 } : Room) [.ref (ad p0), .int p1, .int p2, .int p3] S out.1 out.2 := by
  refine Met.ofW (cc := cX12_note) (maxL := 4) (ret := (some .int)) (by decide +kernel) rfl ?_
  intro p e s m args below meth c s₁ B hml hv
  obtain ⟨rfl, hP, hD, hK, hz⟩ := hv
  have hx := B.exec
  have hb := B.bytes
  have hr := B.returns
  have hts := atoms_spec (ws := wsX12_note) B.pre
  have hown : s.vm.findClass RX12 = some m.cls := findClass_of_methodNamed B.named
  have hlocks := B.notSynchronized
  have hS : va_S (ha_A ad N) s.heap s.heap [] := va_S.rf
  have hi12 : ∀ w ∈ wsX120, w ∈ wsX12_note := fun w h => List.mem_cons_of_mem _ (List.mem_append_right _ h)
  have q158 : ha_Fk s ([.ref (ad p0), .int p1, .int p2, .int p3] : List Value).toArray RX12 158 12 80 0 := ⟨RX12, TX12, 83, wsX12_note, rfl, by decide, by decide, rfl, rfl, hts, hi12, hts (.fieldLink RX12 158 "HillArmsModel" "notes" "I") (by decide +kernel)⟩
  have q13 : ha_Fk s ([.ref (ad p0), .int p1, .int p2, .int p3] : List Value).toArray RX12 13 12 4 0 := ⟨RX12, TX12, 83, wsX12_note, rfl, by decide, by decide, rfl, rfl, hts, hi12, hts (.fieldLink RX12 13 "HillArmsModel" "n" "I") (by decide +kernel)⟩
  have q120 : ha_Fk s ([.ref (ad p0), .int p1, .int p2, .int p3] : List Value).toArray RX12 120 12 75 1 := ⟨RX12, TX12, 83, wsX12_note, rfl, by decide, by decide, rfl, rfl, hts, hi12, hts (.fieldLink RX12 120 "HillArmsModel" "noteFrom" "[I") (by decide +kernel)⟩
  have q123 : ha_Fk s ([.ref (ad p0), .int p1, .int p2, .int p3] : List Value).toArray RX12 123 12 76 1 := ⟨RX12, TX12, 83, wsX12_note, rfl, by decide, by decide, rfl, rfl, hts, hi12, hts (.fieldLink RX12 123 "HillArmsModel" "noteTo" "[I") (by decide +kernel)⟩
  have q126 : ha_Fk s ([.ref (ad p0), .int p1, .int p2, .int p3] : List Value).toArray RX12 126 12 77 1 := ⟨RX12, TX12, 83, wsX12_note, rfl, by decide, by decide, rfl, rfl, hts, hi12, hts (.fieldLink RX12 126 "HillArmsModel" "noteMinutes" "[I") (by decide +kernel)⟩
  have q129 : ha_Fk s ([.ref (ad p0), .int p1, .int p2, .int p3] : List Value).toArray RX12 129 12 78 1 := ⟨RX12, TX12, 83, wsX12_note, rfl, by decide, by decide, rfl, rfl, hts, hi12, hts (.fieldLink RX12 129 "HillArmsModel" "noteTold" "[I") (by decide +kernel)⟩
  have q152 : ha_Fk s ([.ref (ad p0), .int p1, .int p2, .int p3] : List Value).toArray RX12 152 12 3 0 := ⟨RX12, TX12, 83, wsX12_note, rfl, by decide, by decide, rfl, rfl, hts, hi12, hts (.fieldLink RX12 152 "HillArmsModel" "today" "I") (by decide +kernel)⟩
  have r138 : ha_Fp s ([.ref (ad p0), .int p1, .int p2, .int p3] : List Value).toArray RX12 138 12 0 0 .int := ⟨RX12, TX12, 83, wsX12_note, tyX12, rfl, by decide, by decide, rfl, rfl, hts, hi12, hts (.fieldLink RX12 138 "HillArmsModel" "thrown" "I") (by decide +kernel), tyX12_ok, nmX12, rfl, by decide +kernel⟩
  have r158 : ha_Fp s ([.ref (ad p0), .int p1, .int p2, .int p3] : List Value).toArray RX12 158 12 80 0 .int := ⟨RX12, TX12, 83, wsX12_note, tyX12, rfl, by decide, by decide, rfl, rfl, hts, hi12, hts (.fieldLink RX12 158 "HillArmsModel" "notes" "I") (by decide +kernel), tyX12_ok, nmX12, rfl, by decide +kernel⟩
  have cw0 := va_cwS (R := (headSpec wsX12_note ({ frames := 1, cells := 0, slots := 0, locals := 22 } : Room)).room) 3 hts gX12_note_X12_isIn (rm := ({ frames := 0, cells := 0, slots := 0, locals := 0 } : Room)) (mc := 0) (ms := 0) rfl rfl rfl (by decide +kernel) ⟨Nat.le_of_ble_eq_true rfl, Nat.le_of_ble_eq_true rfl⟩
  have hl := lv_entry ([.ref (ad p0), .int p1, .int p2, .int p3]) (n := 4) (Nat.le_of_ble_eq_true rfl)
  rw [lg_entry_eq]
  generalize (lg_sl ([.ref (ad p0), .int p1, .int p2, .int p3]) ++ List.replicate (4 - (lg_sl ([.ref (ad p0), .int p1, .int p2, .int p3])).length) Slot.unset).toArray = ls at hl ⊢
  have hl : lv_has ls 4 [(0, .ref (ad p0)), (1, .int p1), (2, .int p2), (3, .int p3)] := hl
  refine (fun (K0 : ∀ (H : Heap) (locs : List Loc), va_P D vwCl (ha_wl cs ad mo_kd mo_ln N S) H → va_S (ha_A ad N) s.heap H locs → W p l e (headSpec wsX12_note ({ frames := 1, cells := 0, slots := 0, locals := 22 } : Room)).room s m ([.ref (ad p0), .int p1, .int p2, .int p3] : List Value).toArray below meth c H locs 0 0 (MQ below (va_Qi (fun (r : Int32) (_ : Unit) => r = out.1) (fun _ => ha_H D cs ad mo_kd mo_ln N out.2) (ha_A ad N)) ([.ref (ad p0), .int p1, .int p2, .int p3] : List Value).toArray s 0 0 (ha_A ad N)) (F0 m 0 ls [])) => K0 _ _ hP hS) ?_
  intro H locs hP hS
  have hf := ha_rt hf
  have J53 : ∀  (S : ha_St) (H : Heap) (locs : List Loc) (ls : Array Slot), (f_X12_note_J53 p0 p1 p2 p3  S).bind some = some out → va_P D vwCl (ha_wl cs ad mo_kd mo_ln N S) H → va_D (ha_A ad N) (ha_wl cs ad mo_kd mo_ln N S) → va_S (ha_A ad N) s.heap H locs → lv_has ls 4 [(0, .ref (ad p0)), (1, .int p1), (2, .int p2), (3, .int p3)] → W p l e (headSpec wsX12_note ({ frames := 1, cells := 0, slots := 0, locals := 22 } : Room)).room s m ([.ref (ad p0), .int p1, .int p2, .int p3] : List Value).toArray below meth c H locs 0 0 (MQ below (va_Qi (fun (r : Int32) (_ : Unit) => r = out.1) (fun _ => ha_H D cs ad mo_kd mo_ln N out.2) (ha_A ad N)) ([.ref (ad p0), .int p1, .int p2, .int p3] : List Value).toArray s 0 0 (ha_A ad N)) (F0 m 53 ls []) := by
    intro  S H locs ls hf  hP hD hS hl
    unfold f_X12_note_J53 at hf
    refine lv_iconst (v := (-1)) hx hb dX12_note_53 (by decide) ?_
    have he := Option.some.inj hf
    exact ha_reti hx hb hr hlocks hP hD hS dX12_note_54 (ha_e1 he) (ha_e2 he)
  unfold f_X12_note at hf
  refine lv_aload_n hx hb dX12_note_0 rfl (lv_at hl 0 rfl) ?_
  refine lv_iconst (v := 0) hx hb dX12_note_1 (by decide) ?_
  refine ha_puti hx hb hown hK hP hD hS r138 hN h0 dX12_note_2 (fun S1 H locs eS1 hP hD hS => ?_)
  have hf := ha_nms hf eS1
  refine lv_aload_n hx hb dX12_note_5 rfl (lv_at hl 0 rfl) ?_
  refine ha_geti hx hb hown hK hP q158 hN h0 dX12_note_6 ?_
  refine lv_bipush (v := 60) hx hb dX12_note_9 (by decide) ?_
  refine lv_icmp_eq (tgt := 53) hx hb dX12_note_11 (by decide) (fun c2 => ?_) (fun c2 => ?_)
  · have hf := ha_it hf c2
    exact J53  S1 H locs ls hf  hP hD hS (lv_sub hl [0, 1, 2, 3] rfl)
  · have hf := ha_if hf c2
    refine lv_iload_n hx hb dX12_note_14 rfl (lv_at hl 1 rfl) ?_
    refine lv_iconst (v := 0) hx hb dX12_note_15 (by decide) ?_
    refine lv_aload_n hx hb dX12_note_16 rfl (lv_at hl 0 rfl) ?_
    refine ha_geti hx hb hown hK hP q13 hN h0 dX12_note_17 ?_
    refine lv_iconst (v := 1) hx hb dX12_note_20 (by decide) ?_
    refine lv_isub hx hb dX12_note_21 ?_
    obtain ⟨z3, wz3, hf⟩ := ha_bds hf
    refine ha_callSi (As := [.int p1, .int 0, .int ((((ha_gI S1 p0 4) : Int32) - 1))]) (rest := []) hZ ⟨hx, hb, hml, hown, hts⟩ hK hz hP hD hS (c_X12_isIn   wz3) cw0 rfl hl.1 rfl (Nat.le_of_ble_eq_true rfl) dX12_note_22 ⟨Nat.le_of_ble_eq_true rfl, Nat.le_of_ble_eq_true rfl⟩ (fun H locs hP hD hS => ?_)
    refine lv_if_eq (tgt := 53) hx hb dX12_note_25 (by decide) (fun c4 => ?_) (fun c4 => ?_)
    · have hf := ha_it hf c4
      exact J53  S1 H locs ls hf  hP hD hS (lv_sub hl [0, 1, 2, 3] rfl)
    · have hf := ha_if hf c4
      refine lv_iload_n hx hb dX12_note_28 rfl (lv_at hl 2 rfl) ?_
      refine lv_iload_n hx hb dX12_note_29 rfl (lv_at hl 1 rfl) ?_
      refine lv_aload_n hx hb dX12_note_30 rfl (lv_at hl 0 rfl) ?_
      refine ha_geti hx hb hown hK hP q13 hN h0 dX12_note_31 ?_
      refine lv_iconst (v := 1) hx hb dX12_note_34 (by decide) ?_
      refine lv_isub hx hb dX12_note_35 ?_
      obtain ⟨z5, wz5, hf⟩ := ha_bds hf
      refine ha_callSi (As := [.int p2, .int p1, .int ((((ha_gI S1 p0 4) : Int32) - 1))]) (rest := []) hZ ⟨hx, hb, hml, hown, hts⟩ hK hz hP hD hS (c_X12_isIn   wz5) cw0 rfl hl.1 rfl (Nat.le_of_ble_eq_true rfl) dX12_note_36 ⟨Nat.le_of_ble_eq_true rfl, Nat.le_of_ble_eq_true rfl⟩ (fun H locs hP hD hS => ?_)
      refine lv_if_eq (tgt := 53) hx hb dX12_note_39 (by decide) (fun c6 => ?_) (fun c6 => ?_)
      · have hf := ha_it hf c6
        exact J53  S1 H locs ls hf  hP hD hS (lv_sub hl [0, 1, 2, 3] rfl)
      · have hf := ha_if hf c6
        refine lv_iload_n hx hb dX12_note_42 rfl (lv_at hl 3 rfl) ?_
        refine lv_iconst (v := 1) hx hb dX12_note_43 (by decide) ?_
        refine lv_sipush (v := 200) hx hb dX12_note_44 (by decide) ?_
        obtain ⟨z7, wz7, hf⟩ := ha_bds hf
        refine ha_callSi (As := [.int p3, .int 1, .int 200]) (rest := []) hZ ⟨hx, hb, hml, hown, hts⟩ hK hz hP hD hS (c_X12_isIn   wz7) cw0 rfl hl.1 rfl (Nat.le_of_ble_eq_true rfl) dX12_note_47 ⟨Nat.le_of_ble_eq_true rfl, Nat.le_of_ble_eq_true rfl⟩ (fun H locs hP hD hS => ?_)
        refine lv_if_ne (tgt := 55) hx hb dX12_note_50 (by decide) (fun c8 => ?_) (fun c8 => ?_)
        · have hf := ha_it hf c8
          refine lv_aload_n hx hb dX12_note_55 rfl (lv_at hl 0 rfl) ?_
          obtain ⟨r9, wr9, hf⟩ := ha_bds hf
          obtain ⟨wr9, hr9⟩ := ha_rf_some wr9
          refine ha_getr hx hb hown hK hP q120 hN h0 wr9 dX12_note_56 ?_
          refine lv_aload_n hx hb dX12_note_59 rfl (lv_at hl 0 rfl) ?_
          refine ha_geti hx hb hown hK hP q158 hN h0 dX12_note_60 ?_
          refine lv_iload_n hx hb dX12_note_63 rfl (lv_at hl 1 rfl) ?_
          obtain ⟨g10, hf⟩ := ha_gds hf
          refine ha_iast hx hb hK hP hD hS hN hr9 g10 dX12_note_64 (fun S11 H locs eS11 hP hD hS => ?_)
          have hf := ha_nms hf eS11
          refine lv_aload_n hx hb dX12_note_65 rfl (lv_at hl 0 rfl) ?_
          obtain ⟨r12, wr12, hf⟩ := ha_bds hf
          obtain ⟨wr12, hr12⟩ := ha_rf_some wr12
          refine ha_getr hx hb hown hK hP q123 hN h0 wr12 dX12_note_66 ?_
          refine lv_aload_n hx hb dX12_note_69 rfl (lv_at hl 0 rfl) ?_
          refine ha_geti hx hb hown hK hP q158 hN h0 dX12_note_70 ?_
          refine lv_iload_n hx hb dX12_note_73 rfl (lv_at hl 2 rfl) ?_
          obtain ⟨g13, hf⟩ := ha_gds hf
          refine ha_iast hx hb hK hP hD hS hN hr12 g13 dX12_note_74 (fun S14 H locs eS14 hP hD hS => ?_)
          have hf := ha_nms hf eS14
          refine lv_aload_n hx hb dX12_note_75 rfl (lv_at hl 0 rfl) ?_
          obtain ⟨r15, wr15, hf⟩ := ha_bds hf
          obtain ⟨wr15, hr15⟩ := ha_rf_some wr15
          refine ha_getr hx hb hown hK hP q126 hN h0 wr15 dX12_note_76 ?_
          refine lv_aload_n hx hb dX12_note_79 rfl (lv_at hl 0 rfl) ?_
          refine ha_geti hx hb hown hK hP q158 hN h0 dX12_note_80 ?_
          refine lv_iload_n hx hb dX12_note_83 rfl (lv_at hl 3 rfl) ?_
          obtain ⟨g16, hf⟩ := ha_gds hf
          refine ha_iast hx hb hK hP hD hS hN hr15 g16 dX12_note_84 (fun S17 H locs eS17 hP hD hS => ?_)
          have hf := ha_nms hf eS17
          refine lv_aload_n hx hb dX12_note_85 rfl (lv_at hl 0 rfl) ?_
          obtain ⟨r18, wr18, hf⟩ := ha_bds hf
          obtain ⟨wr18, hr18⟩ := ha_rf_some wr18
          refine ha_getr hx hb hown hK hP q129 hN h0 wr18 dX12_note_86 ?_
          refine lv_aload_n hx hb dX12_note_89 rfl (lv_at hl 0 rfl) ?_
          refine ha_geti hx hb hown hK hP q158 hN h0 dX12_note_90 ?_
          refine lv_aload_n hx hb dX12_note_93 rfl (lv_at hl 0 rfl) ?_
          refine ha_geti hx hb hown hK hP q152 hN h0 dX12_note_94 ?_
          obtain ⟨g19, hf⟩ := ha_gds hf
          refine ha_iast hx hb hK hP hD hS hN hr18 g19 dX12_note_97 (fun S20 H locs eS20 hP hD hS => ?_)
          have hf := ha_nms hf eS20
          refine lv_aload_n hx hb dX12_note_98 rfl (lv_at hl 0 rfl) ?_
          refine lv_dup hx hb dX12_note_99 rfl ?_
          refine ha_geti hx hb hown hK hP q158 hN h0 dX12_note_100 ?_
          refine lv_iconst (v := 1) hx hb dX12_note_103 (by decide) ?_
          refine lv_iadd hx hb dX12_note_104 ?_
          refine ha_puti hx hb hown hK hP hD hS r158 hN h0 dX12_note_105 (fun S21 H locs eS21 hP hD hS => ?_)
          have hf := ha_nms hf eS21
          refine lv_aload_n hx hb dX12_note_108 rfl (lv_at hl 0 rfl) ?_
          refine ha_geti hx hb hown hK hP q158 hN h0 dX12_note_109 ?_
          refine lv_iconst (v := 1) hx hb dX12_note_112 (by decide) ?_
          refine lv_isub hx hb dX12_note_113 ?_
          have he := Option.some.inj hf
          exact ha_reti hx hb hr hlocks hP hD hS dX12_note_114 (ha_e1 he) (ha_e2 he)
        · have hf := ha_if hf (fun q => q c8)
          exact J53  S1 H locs ls hf  hP hD hS (lv_sub hl [0, 1, 2, 3] rfl)

set_option maxHeartbeats 4000000 in
set_option maxRecDepth 100000 in
theorem c_X12_bound {l : Launch} {D : va_G} {cs : Nat → ClassId} {ad : Nat → Nat} {N : List Nat} {Z : State → Prop} (hZ : ha_Zok (ha_A ad N) Z) (hN : ∀ x, mo_kd x < 999 → x ∈ N) {p0 : Nat} {p1 : Int32} {p2 : Int32} {p3 : Int32} {S : ha_St} {out : ha_St} (h0 : mo_kd p0 = 12) (hf : f_X12_bound p0 p1 p2 p3 S = some out) : ha_Cv l D cs ad mo_kd mo_ln N Z yX12_bound wsX12_bound ({ frames := 0, cells := 0, slots := 0, locals := 0 } : Room) [.ref (ad p0), .int p1, .int p2, .int p3] S out := by
  refine Met.ofW (cc := cX12_bound) (maxL := 4) (ret := none) (by decide +kernel) rfl ?_
  intro p e s m args below meth c s₁ B hml hv
  obtain ⟨rfl, hP, hD, hK, hz⟩ := hv
  have hx := B.exec
  have hb := B.bytes
  have hr := B.returns
  have hts := atoms_spec (ws := wsX12_bound) B.pre
  have hown : s.vm.findClass RX12 = some m.cls := findClass_of_methodNamed B.named
  have hlocks := B.notSynchronized
  have hS : va_S (ha_A ad N) s.heap s.heap [] := va_S.rf
  have hi12 : ∀ w ∈ wsX120, w ∈ wsX12_bound := fun w h => List.mem_cons_of_mem _ (List.mem_append_right _ h)
  have q132 : ha_Fk s ([.ref (ad p0), .int p1, .int p2, .int p3] : List Value).toArray RX12 132 12 79 1 := ⟨RX12, TX12, 83, wsX12_bound, rfl, by decide, by decide, rfl, rfl, hts, hi12, hts (.fieldLink RX12 132 "HillArmsModel" "above" "[I") (by decide +kernel)⟩
  have hl := lv_entry ([.ref (ad p0), .int p1, .int p2, .int p3]) (n := 4) (Nat.le_of_ble_eq_true rfl)
  rw [lg_entry_eq]
  generalize (lg_sl ([.ref (ad p0), .int p1, .int p2, .int p3]) ++ List.replicate (4 - (lg_sl ([.ref (ad p0), .int p1, .int p2, .int p3])).length) Slot.unset).toArray = ls at hl ⊢
  have hl : lv_has ls 4 [(0, .ref (ad p0)), (1, .int p1), (2, .int p2), (3, .int p3)] := hl
  refine (fun (K0 : ∀ (H : Heap) (locs : List Loc), va_P D vwCl (ha_wl cs ad mo_kd mo_ln N S) H → va_S (ha_A ad N) s.heap H locs → W p l e (headSpec wsX12_bound ({ frames := 0, cells := 0, slots := 0, locals := 0 } : Room)).room s m ([.ref (ad p0), .int p1, .int p2, .int p3] : List Value).toArray below meth c H locs 0 0 (MQ below (va_Qv (fun (_ : Unit) => True) (fun _ => ha_H D cs ad mo_kd mo_ln N out) (ha_A ad N)) ([.ref (ad p0), .int p1, .int p2, .int p3] : List Value).toArray s 0 0 (ha_A ad N)) (F0 m 0 ls [])) => K0 _ _ hP hS) ?_
  intro H locs hP hS
  have hf := ha_rt hf
  have J27 : ∀  (S : ha_St) (H : Heap) (locs : List Loc) (ls : Array Slot), (f_X12_bound_J27 p0 p1 p2 p3  S).bind some = some out → va_P D vwCl (ha_wl cs ad mo_kd mo_ln N S) H → va_D (ha_A ad N) (ha_wl cs ad mo_kd mo_ln N S) → va_S (ha_A ad N) s.heap H locs → lv_has ls 4 [(0, .ref (ad p0)), (1, .int p1), (2, .int p2), (3, .int p3)] → W p l e (headSpec wsX12_bound ({ frames := 0, cells := 0, slots := 0, locals := 0 } : Room)).room s m ([.ref (ad p0), .int p1, .int p2, .int p3] : List Value).toArray below meth c H locs 0 0 (MQ below (va_Qv (fun (_ : Unit) => True) (fun _ => ha_H D cs ad mo_kd mo_ln N out) (ha_A ad N)) ([.ref (ad p0), .int p1, .int p2, .int p3] : List Value).toArray s 0 0 (ha_A ad N)) (F0 m 27 ls []) := by
    intro  S H locs ls hf  hP hD hS hl
    unfold f_X12_bound_J27 at hf
    have he := Option.some.inj hf
    exact ha_retv hx hb hr hlocks hP hD hS dX12_bound_27 he
  unfold f_X12_bound at hf
  refine lv_iload_n hx hb dX12_bound_0 rfl (lv_at hl 3 rfl) ?_
  refine lv_aload_n hx hb dX12_bound_1 rfl (lv_at hl 0 rfl) ?_
  obtain ⟨r1, wr1, hf⟩ := ha_bds hf
  obtain ⟨wr1, hr1⟩ := ha_rf_some wr1
  refine ha_getr hx hb hown hK hP q132 hN h0 wr1 dX12_bound_2 ?_
  refine lv_bipush (v := 17) hx hb dX12_bound_5 (by decide) ?_
  refine lv_iload_n hx hb dX12_bound_7 rfl (lv_at hl 1 rfl) ?_
  refine lv_imul hx hb dX12_bound_8 ?_
  refine lv_iload_n hx hb dX12_bound_9 rfl (lv_at hl 2 rfl) ?_
  refine lv_iadd hx hb dX12_bound_10 ?_
  obtain ⟨g2, hf⟩ := ha_gds hf
  refine ha_iald hx hb hK hP hN hr1 g2 dX12_bound_11 ?_
  refine lv_icmp_ge (tgt := 27) hx hb dX12_bound_12 (by decide) (fun c3 => ?_) (fun c3 => ?_)
  · have hf := ha_it hf c3
    exact J27  S H locs ls hf  hP hD hS (lv_sub hl [0, 1, 2, 3] rfl)
  · have hf := ha_if hf c3
    refine lv_aload_n hx hb dX12_bound_15 rfl (lv_at hl 0 rfl) ?_
    obtain ⟨r4, wr4, hf⟩ := ha_bds hf
    obtain ⟨wr4, hr4⟩ := ha_rf_some wr4
    refine ha_getr hx hb hown hK hP q132 hN h0 wr4 dX12_bound_16 ?_
    refine lv_bipush (v := 17) hx hb dX12_bound_19 (by decide) ?_
    refine lv_iload_n hx hb dX12_bound_21 rfl (lv_at hl 1 rfl) ?_
    refine lv_imul hx hb dX12_bound_22 ?_
    refine lv_iload_n hx hb dX12_bound_23 rfl (lv_at hl 2 rfl) ?_
    refine lv_iadd hx hb dX12_bound_24 ?_
    refine lv_iload_n hx hb dX12_bound_25 rfl (lv_at hl 3 rfl) ?_
    obtain ⟨g5, hf⟩ := ha_gds hf
    refine ha_iast hx hb hK hP hD hS hN hr4 g5 dX12_bound_26 (fun S6 H locs eS6 hP hD hS => ?_)
    have hf := ha_nms hf eS6
    exact J27  S6 H locs ls hf  hP hD hS (lv_sub hl [0, 1, 2, 3] rfl)

set_option maxHeartbeats 4000000 in
set_option maxRecDepth 100000 in
theorem c_X12_reckon {l : Launch} {D : va_G} {cs : Nat → ClassId} {ad : Nat → Nat} {N : List Nat} {Z : State → Prop} (hZ : ha_Zok (ha_A ad N) Z) (hN : ∀ x, mo_kd x < 999 → x ∈ N) {p0 : Nat} {p1 : Int32} {S : ha_St} {out : Int32 × ha_St} (h0 : mo_kd p0 = 12) (hf : f_X12_reckon p0 p1 S = some out) : ha_Ci l D cs ad mo_kd mo_ln N Z yX12_reckon wsX12_reckon ({ frames := 1, cells := 0, slots := 0, locals := 23 } : Room) [.ref (ad p0), .int p1] S out.1 out.2 := by
  refine Met.ofW (cc := cX12_reckon) (maxL := 5) (ret := (some .boolean)) (by decide +kernel) rfl ?_
  intro p e s m args below meth c s₁ B hml hv
  obtain ⟨rfl, hP, hD, hK, hz⟩ := hv
  have hx := B.exec
  have hb := B.bytes
  have hr := B.returns
  have hts := atoms_spec (ws := wsX12_reckon) B.pre
  have hown : s.vm.findClass RX12 = some m.cls := findClass_of_methodNamed B.named
  have hlocks := B.notSynchronized
  have hS : va_S (ha_A ad N) s.heap s.heap [] := va_S.rf
  have hi12 : ∀ w ∈ wsX120, w ∈ wsX12_reckon := fun w h => List.mem_cons_of_mem _ (List.mem_append_right _ h)
  have q13 : ha_Fk s ([.ref (ad p0), .int p1] : List Value).toArray RX12 13 12 4 0 := ⟨RX12, TX12, 83, wsX12_reckon, rfl, by decide, by decide, rfl, rfl, hts, hi12, hts (.fieldLink RX12 13 "HillArmsModel" "n" "I") (by decide +kernel)⟩
  have q132 : ha_Fk s ([.ref (ad p0), .int p1] : List Value).toArray RX12 132 12 79 1 := ⟨RX12, TX12, 83, wsX12_reckon, rfl, by decide, by decide, rfl, rfl, hts, hi12, hts (.fieldLink RX12 132 "HillArmsModel" "above" "[I") (by decide +kernel)⟩
  have q158 : ha_Fk s ([.ref (ad p0), .int p1] : List Value).toArray RX12 158 12 80 0 := ⟨RX12, TX12, 83, wsX12_reckon, rfl, by decide, by decide, rfl, rfl, hts, hi12, hts (.fieldLink RX12 158 "HillArmsModel" "notes" "I") (by decide +kernel)⟩
  have q129 : ha_Fk s ([.ref (ad p0), .int p1] : List Value).toArray RX12 129 12 78 1 := ⟨RX12, TX12, 83, wsX12_reckon, rfl, by decide, by decide, rfl, rfl, hts, hi12, hts (.fieldLink RX12 129 "HillArmsModel" "noteTold" "[I") (by decide +kernel)⟩
  have q120 : ha_Fk s ([.ref (ad p0), .int p1] : List Value).toArray RX12 120 12 75 1 := ⟨RX12, TX12, 83, wsX12_reckon, rfl, by decide, by decide, rfl, rfl, hts, hi12, hts (.fieldLink RX12 120 "HillArmsModel" "noteFrom" "[I") (by decide +kernel)⟩
  have q123 : ha_Fk s ([.ref (ad p0), .int p1] : List Value).toArray RX12 123 12 76 1 := ⟨RX12, TX12, 83, wsX12_reckon, rfl, by decide, by decide, rfl, rfl, hts, hi12, hts (.fieldLink RX12 123 "HillArmsModel" "noteTo" "[I") (by decide +kernel)⟩
  have q126 : ha_Fk s ([.ref (ad p0), .int p1] : List Value).toArray RX12 126 12 77 1 := ⟨RX12, TX12, 83, wsX12_reckon, rfl, by decide, by decide, rfl, rfl, hts, hi12, hts (.fieldLink RX12 126 "HillArmsModel" "noteMinutes" "[I") (by decide +kernel)⟩
  have cn380 := hts (.constant RX12 380 (100000)) (by decide +kernel)
  have cw1 := cwV (R := (headSpec wsX12_reckon ({ frames := 1, cells := 0, slots := 0, locals := 23 } : Room)).room) 3 hts gX12_reckon_X12_bound (rm := ({ frames := 0, cells := 0, slots := 0, locals := 0 } : Room)) (mc := 0) (ms := 0) rfl rfl rfl (by decide +kernel) ⟨Nat.le_of_ble_eq_true rfl, Nat.le_of_ble_eq_true rfl⟩
  have hl := lv_entry ([.ref (ad p0), .int p1]) (n := 5) (Nat.le_of_ble_eq_true rfl)
  rw [lg_entry_eq]
  generalize (lg_sl ([.ref (ad p0), .int p1]) ++ List.replicate (5 - (lg_sl ([.ref (ad p0), .int p1])).length) Slot.unset).toArray = ls at hl ⊢
  have hl : lv_has ls 5 [(0, .ref (ad p0)), (1, .int p1)] := hl
  refine (fun (K0 : ∀ (H : Heap) (locs : List Loc), va_P D vwCl (ha_wl cs ad mo_kd mo_ln N S) H → va_S (ha_A ad N) s.heap H locs → W p l e (headSpec wsX12_reckon ({ frames := 1, cells := 0, slots := 0, locals := 23 } : Room)).room s m ([.ref (ad p0), .int p1] : List Value).toArray below meth c H locs 0 0 (MQ below (va_Qi (fun (r : Int32) (_ : Unit) => r = out.1) (fun _ => ha_H D cs ad mo_kd mo_ln N out.2) (ha_A ad N)) ([.ref (ad p0), .int p1] : List Value).toArray s 0 0 (ha_A ad N)) (F0 m 0 ls [])) => K0 _ _ hP hS) ?_
  intro H locs hP hS
  have hf := ha_rt hf
  have J297 : ∀  (S : ha_St) (H : Heap) (locs : List Loc) (ls : Array Slot), (f_X12_reckon_J297 p0 p1  S).bind some = some out → va_P D vwCl (ha_wl cs ad mo_kd mo_ln N S) H → va_D (ha_A ad N) (ha_wl cs ad mo_kd mo_ln N S) → va_S (ha_A ad N) s.heap H locs → lv_has ls 5 [(0, .ref (ad p0)), (1, .int p1)] → W p l e (headSpec wsX12_reckon ({ frames := 1, cells := 0, slots := 0, locals := 23 } : Room)).room s m ([.ref (ad p0), .int p1] : List Value).toArray below meth c H locs 0 0 (MQ below (va_Qi (fun (r : Int32) (_ : Unit) => r = out.1) (fun _ => ha_H D cs ad mo_kd mo_ln N out.2) (ha_A ad N)) ([.ref (ad p0), .int p1] : List Value).toArray s 0 0 (ha_A ad N)) (F0 m 297 ls []) := by
    intro  S H locs ls hf  hP hD hS hl
    unfold f_X12_reckon_J297 at hf
    refine lv_iconst (v := 1) hx hb dX12_reckon_297 (by decide) ?_
    have he := Option.some.inj hf
    exact ha_retz hx hb hr hlocks hP hD hS dX12_reckon_298 (by decide) (ha_e1 he) (ha_e2 he)
  have J148 : ∀  (S : ha_St) (H : Heap) (locs : List Loc) (ls : Array Slot), (f_X12_reckon_J148 p0 p1  S).bind some = some out → va_P D vwCl (ha_wl cs ad mo_kd mo_ln N S) H → va_D (ha_A ad N) (ha_wl cs ad mo_kd mo_ln N S) → va_S (ha_A ad N) s.heap H locs → lv_has ls 5 [(0, .ref (ad p0)), (1, .int p1)] → W p l e (headSpec wsX12_reckon ({ frames := 1, cells := 0, slots := 0, locals := 23 } : Room)).room s m ([.ref (ad p0), .int p1] : List Value).toArray below meth c H locs 0 0 (MQ below (va_Qi (fun (r : Int32) (_ : Unit) => r = out.1) (fun _ => ha_H D cs ad mo_kd mo_ln N out.2) (ha_A ad N)) ([.ref (ad p0), .int p1] : List Value).toArray s 0 0 (ha_A ad N)) (F0 m 148 ls []) := by
    intro  S H locs ls hf  hP hD hS hl
    unfold f_X12_reckon_J148 at hf
    refine lv_iconst (v := 0) hx hb dX12_reckon_148 (by decide) ?_
    refine lv_istore_n (lv' := [(2, .int 0), (0, .ref (ad p0)), (1, .int p1)]) hx hb dX12_reckon_149 rfl hl (by decide) rfl (fun ls hl => ?_)
    have key29 : ∀ (K : ((ha_St) ⊕ (Int32 × ha_St)) → Option (Int32 × ha_St)), (∀  (S : ha_St) (H : Heap) (locs : List Loc) (ls : Array Slot), K (.inl S) = some out → va_P D vwCl (ha_wl cs ad mo_kd mo_ln N S) H → va_D (ha_A ad N) (ha_wl cs ad mo_kd mo_ln N S) → va_S (ha_A ad N) s.heap H locs → lv_has ls 5 [(0, .ref (ad p0)), (1, .int p1)] → W p l e (headSpec wsX12_reckon ({ frames := 1, cells := 0, slots := 0, locals := 23 } : Room)).room s m ([.ref (ad p0), .int p1] : List Value).toArray below meth c H locs 0 0 (MQ below (va_Qi (fun (r : Int32) (_ : Unit) => r = out.1) (fun _ => ha_H D cs ad mo_kd mo_ln N out.2) (ha_A ad N)) ([.ref (ad p0), .int p1] : List Value).toArray s 0 0 (ha_A ad N)) (F0 m 297 ls [])) → (∀ r, K (.inr r) = some out → r = out) → ∀ (n : Nat) (v2 : Int32) (S : ha_St) (H : Heap) (locs : List Loc) (ls : Array Slot), (f_X12_reckon_L150i p0 p1 n (v2, S)).bind K = some out → va_P D vwCl (ha_wl cs ad mo_kd mo_ln N S) H → va_D (ha_A ad N) (ha_wl cs ad mo_kd mo_ln N S) → va_S (ha_A ad N) s.heap H locs → lv_has ls 5 [(0, .ref (ad p0)), (1, .int p1), (2, .int v2)] → W p l e (headSpec wsX12_reckon ({ frames := 1, cells := 0, slots := 0, locals := 23 } : Room)).room s m ([.ref (ad p0), .int p1] : List Value).toArray below meth c H locs 0 0 (MQ below (va_Qi (fun (r : Int32) (_ : Unit) => r = out.1) (fun _ => ha_H D cs ad mo_kd mo_ln N out.2) (ha_A ad N)) ([.ref (ad p0), .int p1] : List Value).toArray s 0 0 (ha_A ad N)) (F0 m 150 ls []) := by
      intro K hk hke n
      induction n with
      | zero =>
        intro v2 S H locs ls hf
        exact absurd (show (none : Option (Int32 × ha_St)) = some out from hf) (fun h => by cases h)
      | succ n ih =>
        intro v2 S H locs ls hf  hP hD hS hl
        have J291 : ∀ (v2 : Int32) (S : ha_St) (H : Heap) (locs : List Loc) (ls : Array Slot), (f_X12_reckon_L150_J291 p0 p1 (f_X12_reckon_L150i p0 p1 n) v2 S).bind K = some out → va_P D vwCl (ha_wl cs ad mo_kd mo_ln N S) H → va_D (ha_A ad N) (ha_wl cs ad mo_kd mo_ln N S) → va_S (ha_A ad N) s.heap H locs → lv_has ls 5 [(0, .ref (ad p0)), (1, .int p1), (2, .int v2)] → W p l e (headSpec wsX12_reckon ({ frames := 1, cells := 0, slots := 0, locals := 23 } : Room)).room s m ([.ref (ad p0), .int p1] : List Value).toArray below meth c H locs 0 0 (MQ below (va_Qi (fun (r : Int32) (_ : Unit) => r = out.1) (fun _ => ha_H D cs ad mo_kd mo_ln N out.2) (ha_A ad N)) ([.ref (ad p0), .int p1] : List Value).toArray s 0 0 (ha_A ad N)) (F0 m 291 ls []) := by
          intro v2 S H locs ls hf  hP hD hS hl
          unfold f_X12_reckon_L150_J291 at hf
          obtain ⟨x1, ex1⟩ : ∃ y : Int32, y = (v2 : Int32) + 1 := ⟨_, rfl⟩
          have hf := ha_nms hf ex1
          refine lv_iinc (v := x1) (lv' := [(2, .int x1), (0, .ref (ad p0)), (1, .int p1)]) hx hb dX12_reckon_291 hl (k := 2) rfl (by rw [ex1]; rfl) (by decide) rfl (fun ls hl => ?_)
          refine lv_goto (tgt := 150) hx hb dX12_reckon_294 (by decide) ?_
          exact ih x1 S H locs ls hf  hP hD hS (lv_sub hl [1, 2, 0] rfl)
        have J261 : ∀ (v2 : Int32) (S : ha_St) (H : Heap) (locs : List Loc) (ls : Array Slot), (f_X12_reckon_L150_J261 p0 p1 (f_X12_reckon_L150i p0 p1 n) v2 S).bind K = some out → va_P D vwCl (ha_wl cs ad mo_kd mo_ln N S) H → va_D (ha_A ad N) (ha_wl cs ad mo_kd mo_ln N S) → va_S (ha_A ad N) s.heap H locs → lv_has ls 5 [(0, .ref (ad p0)), (1, .int p1), (2, .int v2)] → W p l e (headSpec wsX12_reckon ({ frames := 1, cells := 0, slots := 0, locals := 23 } : Room)).room s m ([.ref (ad p0), .int p1] : List Value).toArray below meth c H locs 0 0 (MQ below (va_Qi (fun (r : Int32) (_ : Unit) => r = out.1) (fun _ => ha_H D cs ad mo_kd mo_ln N out.2) (ha_A ad N)) ([.ref (ad p0), .int p1] : List Value).toArray s 0 0 (ha_A ad N)) (F0 m 261 ls []) := by
          intro v2 S H locs ls hf  hP hD hS hl
          unfold f_X12_reckon_L150_J261 at hf
          refine lv_iconst (v := 0) hx hb dX12_reckon_261 (by decide) ?_
          refine lv_istore_n (lv' := [(3, .int 0), (0, .ref (ad p0)), (1, .int p1), (2, .int v2)]) hx hb dX12_reckon_262 rfl hl (by decide) rfl (fun ls hl => ?_)
          have key7 : ∀ (K : ((Int32 × ha_St) ⊕ (Int32 × ha_St)) → Option (Int32 × ha_St)), (∀ (v2 : Int32) (S : ha_St) (H : Heap) (locs : List Loc) (ls : Array Slot), K (.inl (v2, S)) = some out → va_P D vwCl (ha_wl cs ad mo_kd mo_ln N S) H → va_D (ha_A ad N) (ha_wl cs ad mo_kd mo_ln N S) → va_S (ha_A ad N) s.heap H locs → lv_has ls 5 [(0, .ref (ad p0)), (1, .int p1), (2, .int v2)] → W p l e (headSpec wsX12_reckon ({ frames := 1, cells := 0, slots := 0, locals := 23 } : Room)).room s m ([.ref (ad p0), .int p1] : List Value).toArray below meth c H locs 0 0 (MQ below (va_Qi (fun (r : Int32) (_ : Unit) => r = out.1) (fun _ => ha_H D cs ad mo_kd mo_ln N out.2) (ha_A ad N)) ([.ref (ad p0), .int p1] : List Value).toArray s 0 0 (ha_A ad N)) (F0 m 291 ls [])) → (∀ r, K (.inr r) = some out → r = out) → ∀ (n : Nat) (v2 : Int32) (v3 : Int32) (S : ha_St) (H : Heap) (locs : List Loc) (ls : Array Slot), (f_X12_reckon_L263i p0 p1 n (v2, v3, S)).bind K = some out → va_P D vwCl (ha_wl cs ad mo_kd mo_ln N S) H → va_D (ha_A ad N) (ha_wl cs ad mo_kd mo_ln N S) → va_S (ha_A ad N) s.heap H locs → lv_has ls 5 [(0, .ref (ad p0)), (1, .int p1), (2, .int v2), (3, .int v3)] → W p l e (headSpec wsX12_reckon ({ frames := 1, cells := 0, slots := 0, locals := 23 } : Room)).room s m ([.ref (ad p0), .int p1] : List Value).toArray below meth c H locs 0 0 (MQ below (va_Qi (fun (r : Int32) (_ : Unit) => r = out.1) (fun _ => ha_H D cs ad mo_kd mo_ln N out.2) (ha_A ad N)) ([.ref (ad p0), .int p1] : List Value).toArray s 0 0 (ha_A ad N)) (F0 m 263 ls []) := by
            intro K hk hke n
            induction n with
            | zero =>
              intro v2 v3 S H locs ls hf
              exact absurd (show (none : Option (Int32 × ha_St)) = some out from hf) (fun h => by cases h)
            | succ n ih =>
              intro v2 v3 S H locs ls hf  hP hD hS hl
              have hf : (f_X12_reckon_L263 p0 p1 (f_X12_reckon_L263i p0 p1 n) v2 v3 S).bind K = some out := hf
              unfold f_X12_reckon_L263 at hf
              refine lv_iload_n hx hb dX12_reckon_263 rfl (lv_at hl 3 rfl) ?_
              refine lv_aload_n hx hb dX12_reckon_264 rfl (lv_at hl 0 rfl) ?_
              refine ha_geti hx hb hown hK hP q13 hN h0 dX12_reckon_265 ?_
              refine lv_icmp_gt (tgt := 291) hx hb dX12_reckon_268 (by decide) (fun c2 => ?_) (fun c2 => ?_)
              · have hf := ha_it hf c2
                exact hk v2 S H locs ls hf  hP hD hS (lv_sub hl [0, 1, 2] rfl)
              · have hf := ha_if hf c2
                refine lv_aload_n hx hb dX12_reckon_271 rfl (lv_at hl 0 rfl) ?_
                obtain ⟨r3, wr3, hf⟩ := ha_bds hf
                obtain ⟨wr3, hr3⟩ := ha_rf_some wr3
                refine ha_getr hx hb hown hK hP q132 hN h0 wr3 dX12_reckon_272 ?_
                refine lv_bipush (v := 18) hx hb dX12_reckon_275 (by decide) ?_
                refine lv_iload_n hx hb dX12_reckon_277 rfl (lv_at hl 3 rfl) ?_
                refine lv_imul hx hb dX12_reckon_278 ?_
                obtain ⟨g4, hf⟩ := ha_gds hf
                refine ha_iald hx hb hK hP hN hr3 g4 dX12_reckon_279 ?_
                refine lv_if_ge (tgt := 285) hx hb dX12_reckon_280 (by decide) (fun c5 => ?_) (fun c5 => ?_)
                · have hf := ha_it hf c5
                  obtain ⟨x6, ex6⟩ : ∃ y : Int32, y = (v3 : Int32) + 1 := ⟨_, rfl⟩
                  have hf := ha_nms hf ex6
                  refine lv_iinc (v := x6) (lv' := [(3, .int x6), (0, .ref (ad p0)), (1, .int p1), (2, .int v2)]) hx hb dX12_reckon_285 hl (k := 3) rfl (by rw [ex6]; rfl) (by decide) rfl (fun ls hl => ?_)
                  refine lv_goto (tgt := 263) hx hb dX12_reckon_288 (by decide) ?_
                  exact ih v2 x6 S H locs ls hf  hP hD hS (lv_sub hl [1, 2, 3, 0] rfl)
                · have hf := ha_if hf c5
                  refine lv_iconst (v := 0) hx hb dX12_reckon_283 (by decide) ?_
                  have he := hke _ hf
                  exact ha_retz hx hb hr hlocks hP hD hS dX12_reckon_284 (by decide) (ha_e1 he) (ha_e2 he)
          refine key7 _ (fun v2 S H locs ls hf  hP hD hS hl => ?_) (fun r h => hke r h) ha_fu v2 0 S H locs ls (ha_as hf)  hP hD hS (lv_sub hl [1, 2, 3, 0] rfl)
          have hf : (f_X12_reckon_L150_J291 p0 p1 (f_X12_reckon_L150i p0 p1 n) v2 S).bind K = some out := hf
          exact J291 v2 S H locs ls hf  hP hD hS (lv_sub hl [0, 1, 2] rfl)
        have hf : (f_X12_reckon_L150 p0 p1 (f_X12_reckon_L150i p0 p1 n) v2 S).bind K = some out := hf
        unfold f_X12_reckon_L150 at hf
        refine lv_iload_n hx hb dX12_reckon_150 rfl (lv_at hl 2 rfl) ?_
        refine lv_aload_n hx hb dX12_reckon_151 rfl (lv_at hl 0 rfl) ?_
        refine ha_geti hx hb hown hK hP q13 hN h0 dX12_reckon_152 ?_
        refine lv_icmp_gt (tgt := 297) hx hb dX12_reckon_155 (by decide) (fun c9 => ?_) (fun c9 => ?_)
        · have hf := ha_it hf c9
          exact hk  S H locs ls hf  hP hD hS (lv_sub hl [0, 1] rfl)
        · have hf := ha_if hf c9
          refine lv_iconst (v := 0) hx hb dX12_reckon_158 (by decide) ?_
          refine lv_istore_n (lv' := [(3, .int 0), (0, .ref (ad p0)), (1, .int p1), (2, .int v2)]) hx hb dX12_reckon_159 rfl hl (by decide) rfl (fun ls hl => ?_)
          have key27 : ∀ (K : (Int32 × ha_St) → Option (Int32 × ha_St)), (∀ (v2 : Int32) (S : ha_St) (H : Heap) (locs : List Loc) (ls : Array Slot), K (v2, S) = some out → va_P D vwCl (ha_wl cs ad mo_kd mo_ln N S) H → va_D (ha_A ad N) (ha_wl cs ad mo_kd mo_ln N S) → va_S (ha_A ad N) s.heap H locs → lv_has ls 5 [(0, .ref (ad p0)), (1, .int p1), (2, .int v2)] → W p l e (headSpec wsX12_reckon ({ frames := 1, cells := 0, slots := 0, locals := 23 } : Room)).room s m ([.ref (ad p0), .int p1] : List Value).toArray below meth c H locs 0 0 (MQ below (va_Qi (fun (r : Int32) (_ : Unit) => r = out.1) (fun _ => ha_H D cs ad mo_kd mo_ln N out.2) (ha_A ad N)) ([.ref (ad p0), .int p1] : List Value).toArray s 0 0 (ha_A ad N)) (F0 m 261 ls [])) → ∀ (n : Nat) (v2 : Int32) (v3 : Int32) (S : ha_St) (H : Heap) (locs : List Loc) (ls : Array Slot), (f_X12_reckon_L160i p0 p1 n (v2, v3, S)).bind K = some out → va_P D vwCl (ha_wl cs ad mo_kd mo_ln N S) H → va_D (ha_A ad N) (ha_wl cs ad mo_kd mo_ln N S) → va_S (ha_A ad N) s.heap H locs → lv_has ls 5 [(0, .ref (ad p0)), (1, .int p1), (2, .int v2), (3, .int v3)] → W p l e (headSpec wsX12_reckon ({ frames := 1, cells := 0, slots := 0, locals := 23 } : Room)).room s m ([.ref (ad p0), .int p1] : List Value).toArray below meth c H locs 0 0 (MQ below (va_Qi (fun (r : Int32) (_ : Unit) => r = out.1) (fun _ => ha_H D cs ad mo_kd mo_ln N out.2) (ha_A ad N)) ([.ref (ad p0), .int p1] : List Value).toArray s 0 0 (ha_A ad N)) (F0 m 160 ls []) := by
            intro K hk n
            induction n with
            | zero =>
              intro v2 v3 S H locs ls hf
              exact absurd (show (none : Option (Int32 × ha_St)) = some out from hf) (fun h => by cases h)
            | succ n ih =>
              intro v2 v3 S H locs ls hf  hP hD hS hl
              have J255 : ∀ (v2 : Int32) (v3 : Int32) (S : ha_St) (H : Heap) (locs : List Loc) (ls : Array Slot), (f_X12_reckon_L160_J255 p0 p1 (f_X12_reckon_L160i p0 p1 n) v2 v3 S).bind K = some out → va_P D vwCl (ha_wl cs ad mo_kd mo_ln N S) H → va_D (ha_A ad N) (ha_wl cs ad mo_kd mo_ln N S) → va_S (ha_A ad N) s.heap H locs → lv_has ls 5 [(0, .ref (ad p0)), (1, .int p1), (2, .int v2), (3, .int v3)] → W p l e (headSpec wsX12_reckon ({ frames := 1, cells := 0, slots := 0, locals := 23 } : Room)).room s m ([.ref (ad p0), .int p1] : List Value).toArray below meth c H locs 0 0 (MQ below (va_Qi (fun (r : Int32) (_ : Unit) => r = out.1) (fun _ => ha_H D cs ad mo_kd mo_ln N out.2) (ha_A ad N)) ([.ref (ad p0), .int p1] : List Value).toArray s 0 0 (ha_A ad N)) (F0 m 255 ls []) := by
                intro v2 v3 S H locs ls hf  hP hD hS hl
                unfold f_X12_reckon_L160_J255 at hf
                obtain ⟨x10, ex10⟩ : ∃ y : Int32, y = (v3 : Int32) + 1 := ⟨_, rfl⟩
                have hf := ha_nms hf ex10
                refine lv_iinc (v := x10) (lv' := [(3, .int x10), (0, .ref (ad p0)), (1, .int p1), (2, .int v2)]) hx hb dX12_reckon_255 hl (k := 3) rfl (by rw [ex10]; rfl) (by decide) rfl (fun ls hl => ?_)
                refine lv_goto (tgt := 160) hx hb dX12_reckon_258 (by decide) ?_
                exact ih v2 x10 S H locs ls hf  hP hD hS (lv_sub hl [1, 2, 3, 0] rfl)
              have hf : (f_X12_reckon_L160 p0 p1 (f_X12_reckon_L160i p0 p1 n) v2 v3 S).bind K = some out := hf
              unfold f_X12_reckon_L160 at hf
              refine lv_iload_n hx hb dX12_reckon_160 rfl (lv_at hl 3 rfl) ?_
              refine lv_aload_n hx hb dX12_reckon_161 rfl (lv_at hl 0 rfl) ?_
              refine ha_geti hx hb hown hK hP q13 hN h0 dX12_reckon_162 ?_
              refine lv_icmp_gt (tgt := 261) hx hb dX12_reckon_165 (by decide) (fun c11 => ?_) (fun c11 => ?_)
              · have hf := ha_it hf c11
                exact hk v2 S H locs ls hf  hP hD hS (lv_sub hl [0, 1, 2] rfl)
              · have hf := ha_if hf c11
                refine lv_iconst (v := 0) hx hb dX12_reckon_168 (by decide) ?_
                refine lv_istore (lv' := [(4, .int 0), (0, .ref (ad p0)), (1, .int p1), (2, .int v2), (3, .int v3)]) hx hb dX12_reckon_169 hl (by decide) rfl (fun ls hl => ?_)
                have key25 : ∀ (K : (Int32 × Int32 × ha_St) → Option (Int32 × ha_St)), (∀ (v2 : Int32) (v3 : Int32) (S : ha_St) (H : Heap) (locs : List Loc) (ls : Array Slot), K (v2, v3, S) = some out → va_P D vwCl (ha_wl cs ad mo_kd mo_ln N S) H → va_D (ha_A ad N) (ha_wl cs ad mo_kd mo_ln N S) → va_S (ha_A ad N) s.heap H locs → lv_has ls 5 [(0, .ref (ad p0)), (1, .int p1), (2, .int v2), (3, .int v3)] → W p l e (headSpec wsX12_reckon ({ frames := 1, cells := 0, slots := 0, locals := 23 } : Room)).room s m ([.ref (ad p0), .int p1] : List Value).toArray below meth c H locs 0 0 (MQ below (va_Qi (fun (r : Int32) (_ : Unit) => r = out.1) (fun _ => ha_H D cs ad mo_kd mo_ln N out.2) (ha_A ad N)) ([.ref (ad p0), .int p1] : List Value).toArray s 0 0 (ha_A ad N)) (F0 m 255 ls [])) → ∀ (n : Nat) (v2 : Int32) (v3 : Int32) (v4 : Int32) (S : ha_St) (H : Heap) (locs : List Loc) (ls : Array Slot), (f_X12_reckon_L171i p0 p1 n (v2, v3, v4, S)).bind K = some out → va_P D vwCl (ha_wl cs ad mo_kd mo_ln N S) H → va_D (ha_A ad N) (ha_wl cs ad mo_kd mo_ln N S) → va_S (ha_A ad N) s.heap H locs → lv_has ls 5 [(0, .ref (ad p0)), (1, .int p1), (2, .int v2), (3, .int v3), (4, .int v4)] → W p l e (headSpec wsX12_reckon ({ frames := 1, cells := 0, slots := 0, locals := 23 } : Room)).room s m ([.ref (ad p0), .int p1] : List Value).toArray below meth c H locs 0 0 (MQ below (va_Qi (fun (r : Int32) (_ : Unit) => r = out.1) (fun _ => ha_H D cs ad mo_kd mo_ln N out.2) (ha_A ad N)) ([.ref (ad p0), .int p1] : List Value).toArray s 0 0 (ha_A ad N)) (F0 m 171 ls []) := by
                  intro K hk n
                  induction n with
                  | zero =>
                    intro v2 v3 v4 S H locs ls hf
                    exact absurd (show (none : Option (Int32 × ha_St)) = some out from hf) (fun h => by cases h)
                  | succ n ih =>
                    intro v2 v3 v4 S H locs ls hf  hP hD hS hl
                    have J249 : ∀ (v2 : Int32) (v3 : Int32) (v4 : Int32) (S : ha_St) (H : Heap) (locs : List Loc) (ls : Array Slot), (f_X12_reckon_L171_J249 p0 p1 (f_X12_reckon_L171i p0 p1 n) v2 v3 v4 S).bind K = some out → va_P D vwCl (ha_wl cs ad mo_kd mo_ln N S) H → va_D (ha_A ad N) (ha_wl cs ad mo_kd mo_ln N S) → va_S (ha_A ad N) s.heap H locs → lv_has ls 5 [(0, .ref (ad p0)), (1, .int p1), (2, .int v2), (3, .int v3), (4, .int v4)] → W p l e (headSpec wsX12_reckon ({ frames := 1, cells := 0, slots := 0, locals := 23 } : Room)).room s m ([.ref (ad p0), .int p1] : List Value).toArray below meth c H locs 0 0 (MQ below (va_Qi (fun (r : Int32) (_ : Unit) => r = out.1) (fun _ => ha_H D cs ad mo_kd mo_ln N out.2) (ha_A ad N)) ([.ref (ad p0), .int p1] : List Value).toArray s 0 0 (ha_A ad N)) (F0 m 249 ls []) := by
                      intro v2 v3 v4 S H locs ls hf  hP hD hS hl
                      unfold f_X12_reckon_L171_J249 at hf
                      obtain ⟨x12, ex12⟩ : ∃ y : Int32, y = (v4 : Int32) + 1 := ⟨_, rfl⟩
                      have hf := ha_nms hf ex12
                      refine lv_iinc (v := x12) (lv' := [(4, .int x12), (0, .ref (ad p0)), (1, .int p1), (2, .int v2), (3, .int v3)]) hx hb dX12_reckon_249 hl (k := 4) rfl (by rw [ex12]; rfl) (by decide) rfl (fun ls hl => ?_)
                      refine lv_goto (tgt := 171) hx hb dX12_reckon_252 (by decide) ?_
                      exact ih v2 v3 x12 S H locs ls hf  hP hD hS (lv_sub hl [1, 2, 3, 4, 0] rfl)
                    have hf : (f_X12_reckon_L171 p0 p1 (f_X12_reckon_L171i p0 p1 n) v2 v3 v4 S).bind K = some out := hf
                    unfold f_X12_reckon_L171 at hf
                    refine lv_iload hx hb dX12_reckon_171 (lv_at hl 4 rfl) ?_
                    refine lv_aload_n hx hb dX12_reckon_173 rfl (lv_at hl 0 rfl) ?_
                    refine ha_geti hx hb hown hK hP q13 hN h0 dX12_reckon_174 ?_
                    refine lv_icmp_gt (tgt := 255) hx hb dX12_reckon_177 (by decide) (fun c13 => ?_) (fun c13 => ?_)
                    · have hf := ha_it hf c13
                      exact hk v2 v3 S H locs ls hf  hP hD hS (lv_sub hl [0, 1, 2, 3] rfl)
                    · have hf := ha_if hf c13
                      refine lv_aload_n hx hb dX12_reckon_180 rfl (lv_at hl 0 rfl) ?_
                      obtain ⟨r14, wr14, hf⟩ := ha_bds hf
                      obtain ⟨wr14, hr14⟩ := ha_rf_some wr14
                      refine ha_getr hx hb hown hK hP q132 hN h0 wr14 dX12_reckon_181 ?_
                      refine lv_bipush (v := 17) hx hb dX12_reckon_184 (by decide) ?_
                      refine lv_iload_n hx hb dX12_reckon_186 rfl (lv_at hl 3 rfl) ?_
                      refine lv_imul hx hb dX12_reckon_187 ?_
                      refine lv_iload_n hx hb dX12_reckon_188 rfl (lv_at hl 2 rfl) ?_
                      refine lv_iadd hx hb dX12_reckon_189 ?_
                      obtain ⟨g15, hf⟩ := ha_gds hf
                      refine ha_iald hx hb hK hP hN hr14 g15 dX12_reckon_190 ?_
                      refine lv_ldcw hx hb hown cn380 dX12_reckon_191 ?_
                      refine lv_icmp_ge (tgt := 249) hx hb dX12_reckon_194 (by decide) (fun c16 => ?_) (fun c16 => ?_)
                      · have hf := ha_it hf c16
                        exact J249 v2 v3 v4 S H locs ls hf  hP hD hS (lv_sub hl [0, 1, 2, 3, 4] rfl)
                      · have hf := ha_if hf c16
                        refine lv_aload_n hx hb dX12_reckon_197 rfl (lv_at hl 0 rfl) ?_
                        obtain ⟨r17, wr17, hf⟩ := ha_bds hf
                        obtain ⟨wr17, hr17⟩ := ha_rf_some wr17
                        refine ha_getr hx hb hown hK hP q132 hN h0 wr17 dX12_reckon_198 ?_
                        refine lv_bipush (v := 17) hx hb dX12_reckon_201 (by decide) ?_
                        refine lv_iload_n hx hb dX12_reckon_203 rfl (lv_at hl 2 rfl) ?_
                        refine lv_imul hx hb dX12_reckon_204 ?_
                        refine lv_iload hx hb dX12_reckon_205 (lv_at hl 4 rfl) ?_
                        refine lv_iadd hx hb dX12_reckon_207 ?_
                        obtain ⟨g18, hf⟩ := ha_gds hf
                        refine ha_iald hx hb hK hP hN hr17 g18 dX12_reckon_208 ?_
                        refine lv_ldcw hx hb hown cn380 dX12_reckon_209 ?_
                        refine lv_icmp_lt (tgt := 218) hx hb dX12_reckon_212 (by decide) (fun c19 => ?_) (fun c19 => ?_)
                        · have hf := ha_it hf c19
                          refine lv_aload_n hx hb dX12_reckon_218 rfl (lv_at hl 0 rfl) ?_
                          refine lv_iload_n hx hb dX12_reckon_219 rfl (lv_at hl 3 rfl) ?_
                          refine lv_iload hx hb dX12_reckon_220 (lv_at hl 4 rfl) ?_
                          refine lv_aload_n hx hb dX12_reckon_222 rfl (lv_at hl 0 rfl) ?_
                          obtain ⟨r20, wr20, hf⟩ := ha_bds hf
                          obtain ⟨wr20, hr20⟩ := ha_rf_some wr20
                          refine ha_getr hx hb hown hK hP q132 hN h0 wr20 dX12_reckon_223 ?_
                          refine lv_bipush (v := 17) hx hb dX12_reckon_226 (by decide) ?_
                          refine lv_iload_n hx hb dX12_reckon_228 rfl (lv_at hl 3 rfl) ?_
                          refine lv_imul hx hb dX12_reckon_229 ?_
                          refine lv_iload_n hx hb dX12_reckon_230 rfl (lv_at hl 2 rfl) ?_
                          refine lv_iadd hx hb dX12_reckon_231 ?_
                          obtain ⟨g21, hf⟩ := ha_gds hf
                          refine ha_iald hx hb hK hP hN hr20 g21 dX12_reckon_232 ?_
                          refine lv_aload_n hx hb dX12_reckon_233 rfl (lv_at hl 0 rfl) ?_
                          obtain ⟨r22, wr22, hf⟩ := ha_bds hf
                          obtain ⟨wr22, hr22⟩ := ha_rf_some wr22
                          refine ha_getr hx hb hown hK hP q132 hN h0 wr22 dX12_reckon_234 ?_
                          refine lv_bipush (v := 17) hx hb dX12_reckon_237 (by decide) ?_
                          refine lv_iload_n hx hb dX12_reckon_239 rfl (lv_at hl 2 rfl) ?_
                          refine lv_imul hx hb dX12_reckon_240 ?_
                          refine lv_iload hx hb dX12_reckon_241 (lv_at hl 4 rfl) ?_
                          refine lv_iadd hx hb dX12_reckon_243 ?_
                          obtain ⟨g23, hf⟩ := ha_gds hf
                          refine ha_iald hx hb hK hP hN hr22 g23 dX12_reckon_244 ?_
                          refine lv_iadd hx hb dX12_reckon_245 ?_
                          obtain ⟨z24, wz24, hf⟩ := ha_bds hf
                          refine ha_callVv (As := [.int v3, .int v4, .int ((((ha_gA S r20 (((((17 : Int32) * v3) : Int32) + v2) : Int32).toNatClampNeg) : Int32) + (ha_gA S r22 (((((17 : Int32) * v2) : Int32) + v4) : Int32).toNatClampNeg)))]) (rest := []) hZ ⟨hx, hb, hml, hown, hts⟩ hK hz hP hD hS (c_X12_bound hZ hN h0 wz24) cw1 hN h0 (by decide) rfl rfl hl.1 rfl (Nat.le_of_ble_eq_true rfl) dX12_reckon_246 ⟨Nat.le_of_ble_eq_true rfl, Nat.le_of_ble_eq_true rfl⟩ (fun H locs hP hD hS => ?_)
                          exact J249 v2 v3 v4 z24 H locs ls hf  hP hD hS (lv_sub hl [0, 1, 2, 3, 4] rfl)
                        · have hf := ha_if hf c19
                          refine lv_goto (tgt := 249) hx hb dX12_reckon_215 (by decide) ?_
                          exact J249 v2 v3 v4 S H locs ls hf  hP hD hS (lv_sub hl [0, 1, 2, 3, 4] rfl)
                refine key25 _ (fun v2 v3 S H locs ls hf  hP hD hS hl => ?_) ha_fu v2 v3 0 S H locs ls (ha_as hf)  hP hD hS (lv_sub hl [1, 2, 3, 4, 0] rfl)
                have hf : (f_X12_reckon_L160_J255 p0 p1 (f_X12_reckon_L160i p0 p1 n) v2 v3 S).bind K = some out := hf
                exact J255 v2 v3 S H locs ls hf  hP hD hS (lv_sub hl [0, 1, 2, 3] rfl)
          refine key27 _ (fun v2 S H locs ls hf  hP hD hS hl => ?_) ha_fu v2 0 S H locs ls (ha_as hf)  hP hD hS (lv_sub hl [1, 2, 3, 0] rfl)
          have hf : (f_X12_reckon_L150_J261 p0 p1 (f_X12_reckon_L150i p0 p1 n) v2 S).bind K = some out := hf
          exact J261 v2 S H locs ls hf  hP hD hS (lv_sub hl [0, 1, 2] rfl)
    refine key29 _ (fun  S H locs ls hf  hP hD hS hl => ?_) (fun r h => Option.some.inj h) ha_fu 0 S H locs ls (ha_as hf)  hP hD hS (lv_sub hl [1, 2, 0] rfl)
    have hf : (f_X12_reckon_J297 p0 p1  S).bind some = some out := hf
    exact J297  S H locs ls hf  hP hD hS (lv_sub hl [0, 1] rfl)
  have J70 : ∀  (S : ha_St) (H : Heap) (locs : List Loc) (ls : Array Slot), (f_X12_reckon_J70 p0 p1  S).bind some = some out → va_P D vwCl (ha_wl cs ad mo_kd mo_ln N S) H → va_D (ha_A ad N) (ha_wl cs ad mo_kd mo_ln N S) → va_S (ha_A ad N) s.heap H locs → lv_has ls 5 [(0, .ref (ad p0)), (1, .int p1)] → W p l e (headSpec wsX12_reckon ({ frames := 1, cells := 0, slots := 0, locals := 23 } : Room)).room s m ([.ref (ad p0), .int p1] : List Value).toArray below meth c H locs 0 0 (MQ below (va_Qi (fun (r : Int32) (_ : Unit) => r = out.1) (fun _ => ha_H D cs ad mo_kd mo_ln N out.2) (ha_A ad N)) ([.ref (ad p0), .int p1] : List Value).toArray s 0 0 (ha_A ad N)) (F0 m 70 ls []) := by
    intro  S H locs ls hf  hP hD hS hl
    unfold f_X12_reckon_J70 at hf
    refine lv_iconst (v := 0) hx hb dX12_reckon_70 (by decide) ?_
    refine lv_istore_n (lv' := [(2, .int 0), (0, .ref (ad p0)), (1, .int p1)]) hx hb dX12_reckon_71 rfl hl (by decide) rfl (fun ls hl => ?_)
    have key50 : ∀ (K : (ha_St) → Option (Int32 × ha_St)), (∀  (S : ha_St) (H : Heap) (locs : List Loc) (ls : Array Slot), K S = some out → va_P D vwCl (ha_wl cs ad mo_kd mo_ln N S) H → va_D (ha_A ad N) (ha_wl cs ad mo_kd mo_ln N S) → va_S (ha_A ad N) s.heap H locs → lv_has ls 5 [(0, .ref (ad p0)), (1, .int p1)] → W p l e (headSpec wsX12_reckon ({ frames := 1, cells := 0, slots := 0, locals := 23 } : Room)).room s m ([.ref (ad p0), .int p1] : List Value).toArray below meth c H locs 0 0 (MQ below (va_Qi (fun (r : Int32) (_ : Unit) => r = out.1) (fun _ => ha_H D cs ad mo_kd mo_ln N out.2) (ha_A ad N)) ([.ref (ad p0), .int p1] : List Value).toArray s 0 0 (ha_A ad N)) (F0 m 148 ls [])) → ∀ (n : Nat) (v2 : Int32) (S : ha_St) (H : Heap) (locs : List Loc) (ls : Array Slot), (f_X12_reckon_L72i p0 p1 n (v2, S)).bind K = some out → va_P D vwCl (ha_wl cs ad mo_kd mo_ln N S) H → va_D (ha_A ad N) (ha_wl cs ad mo_kd mo_ln N S) → va_S (ha_A ad N) s.heap H locs → lv_has ls 5 [(0, .ref (ad p0)), (1, .int p1), (2, .int v2)] → W p l e (headSpec wsX12_reckon ({ frames := 1, cells := 0, slots := 0, locals := 23 } : Room)).room s m ([.ref (ad p0), .int p1] : List Value).toArray below meth c H locs 0 0 (MQ below (va_Qi (fun (r : Int32) (_ : Unit) => r = out.1) (fun _ => ha_H D cs ad mo_kd mo_ln N out.2) (ha_A ad N)) ([.ref (ad p0), .int p1] : List Value).toArray s 0 0 (ha_A ad N)) (F0 m 72 ls []) := by
      intro K hk n
      induction n with
      | zero =>
        intro v2 S H locs ls hf
        exact absurd (show (none : Option (Int32 × ha_St)) = some out from hf) (fun h => by cases h)
      | succ n ih =>
        intro v2 S H locs ls hf  hP hD hS hl
        have J142 : ∀ (v2 : Int32) (S : ha_St) (H : Heap) (locs : List Loc) (ls : Array Slot), (f_X12_reckon_L72_J142 p0 p1 (f_X12_reckon_L72i p0 p1 n) v2 S).bind K = some out → va_P D vwCl (ha_wl cs ad mo_kd mo_ln N S) H → va_D (ha_A ad N) (ha_wl cs ad mo_kd mo_ln N S) → va_S (ha_A ad N) s.heap H locs → lv_has ls 5 [(0, .ref (ad p0)), (1, .int p1), (2, .int v2)] → W p l e (headSpec wsX12_reckon ({ frames := 1, cells := 0, slots := 0, locals := 23 } : Room)).room s m ([.ref (ad p0), .int p1] : List Value).toArray below meth c H locs 0 0 (MQ below (va_Qi (fun (r : Int32) (_ : Unit) => r = out.1) (fun _ => ha_H D cs ad mo_kd mo_ln N out.2) (ha_A ad N)) ([.ref (ad p0), .int p1] : List Value).toArray s 0 0 (ha_A ad N)) (F0 m 142 ls []) := by
          intro v2 S H locs ls hf  hP hD hS hl
          unfold f_X12_reckon_L72_J142 at hf
          obtain ⟨x31, ex31⟩ : ∃ y : Int32, y = (v2 : Int32) + 1 := ⟨_, rfl⟩
          have hf := ha_nms hf ex31
          refine lv_iinc (v := x31) (lv' := [(2, .int x31), (0, .ref (ad p0)), (1, .int p1)]) hx hb dX12_reckon_142 hl (k := 2) rfl (by rw [ex31]; rfl) (by decide) rfl (fun ls hl => ?_)
          refine lv_goto (tgt := 72) hx hb dX12_reckon_145 (by decide) ?_
          exact ih x31 S H locs ls hf  hP hD hS (lv_sub hl [1, 2, 0] rfl)
        have hf : (f_X12_reckon_L72 p0 p1 (f_X12_reckon_L72i p0 p1 n) v2 S).bind K = some out := hf
        unfold f_X12_reckon_L72 at hf
        refine lv_iload_n hx hb dX12_reckon_72 rfl (lv_at hl 2 rfl) ?_
        refine lv_aload_n hx hb dX12_reckon_73 rfl (lv_at hl 0 rfl) ?_
        refine ha_geti hx hb hown hK hP q158 hN h0 dX12_reckon_74 ?_
        refine lv_icmp_ge (tgt := 148) hx hb dX12_reckon_77 (by decide) (fun c32 => ?_) (fun c32 => ?_)
        · have hf := ha_it hf c32
          exact hk  S H locs ls hf  hP hD hS (lv_sub hl [0, 1] rfl)
        · have hf := ha_if hf c32
          refine lv_aload_n hx hb dX12_reckon_80 rfl (lv_at hl 0 rfl) ?_
          obtain ⟨r33, wr33, hf⟩ := ha_bds hf
          obtain ⟨wr33, hr33⟩ := ha_rf_some wr33
          refine ha_getr hx hb hown hK hP q129 hN h0 wr33 dX12_reckon_81 ?_
          refine lv_iload_n hx hb dX12_reckon_84 rfl (lv_at hl 2 rfl) ?_
          obtain ⟨g34, hf⟩ := ha_gds hf
          refine ha_iald hx hb hK hP hN hr33 g34 dX12_reckon_85 ?_
          refine lv_iload_n hx hb dX12_reckon_86 rfl (lv_at hl 1 rfl) ?_
          refine lv_icmp_le (tgt := 93) hx hb dX12_reckon_87 (by decide) (fun c35 => ?_) (fun c35 => ?_)
          · have hf := ha_it hf c35
            refine lv_aload_n hx hb dX12_reckon_93 rfl (lv_at hl 0 rfl) ?_
            refine lv_aload_n hx hb dX12_reckon_94 rfl (lv_at hl 0 rfl) ?_
            obtain ⟨r36, wr36, hf⟩ := ha_bds hf
            obtain ⟨wr36, hr36⟩ := ha_rf_some wr36
            refine ha_getr hx hb hown hK hP q120 hN h0 wr36 dX12_reckon_95 ?_
            refine lv_iload_n hx hb dX12_reckon_98 rfl (lv_at hl 2 rfl) ?_
            obtain ⟨g37, hf⟩ := ha_gds hf
            refine ha_iald hx hb hK hP hN hr36 g37 dX12_reckon_99 ?_
            refine lv_aload_n hx hb dX12_reckon_100 rfl (lv_at hl 0 rfl) ?_
            obtain ⟨r38, wr38, hf⟩ := ha_bds hf
            obtain ⟨wr38, hr38⟩ := ha_rf_some wr38
            refine ha_getr hx hb hown hK hP q123 hN h0 wr38 dX12_reckon_101 ?_
            refine lv_iload_n hx hb dX12_reckon_104 rfl (lv_at hl 2 rfl) ?_
            obtain ⟨g39, hf⟩ := ha_gds hf
            refine ha_iald hx hb hK hP hN hr38 g39 dX12_reckon_105 ?_
            refine lv_iconst (v := 1) hx hb dX12_reckon_106 (by decide) ?_
            refine lv_iadd hx hb dX12_reckon_107 ?_
            refine lv_aload_n hx hb dX12_reckon_108 rfl (lv_at hl 0 rfl) ?_
            obtain ⟨r40, wr40, hf⟩ := ha_bds hf
            obtain ⟨wr40, hr40⟩ := ha_rf_some wr40
            refine ha_getr hx hb hown hK hP q126 hN h0 wr40 dX12_reckon_109 ?_
            refine lv_iload_n hx hb dX12_reckon_112 rfl (lv_at hl 2 rfl) ?_
            obtain ⟨g41, hf⟩ := ha_gds hf
            refine ha_iald hx hb hK hP hN hr40 g41 dX12_reckon_113 ?_
            obtain ⟨z42, wz42, hf⟩ := ha_bds hf
            refine ha_callVv (As := [.int ((ha_gA S r36 (v2 : Int32).toNatClampNeg)), .int ((((ha_gA S r38 (v2 : Int32).toNatClampNeg) : Int32) + 1)), .int ((ha_gA S r40 (v2 : Int32).toNatClampNeg))]) (rest := []) hZ ⟨hx, hb, hml, hown, hts⟩ hK hz hP hD hS (c_X12_bound hZ hN h0 wz42) cw1 hN h0 (by decide) rfl rfl hl.1 rfl (Nat.le_of_ble_eq_true rfl) dX12_reckon_114 ⟨Nat.le_of_ble_eq_true rfl, Nat.le_of_ble_eq_true rfl⟩ (fun H locs hP hD hS => ?_)
            refine lv_aload_n hx hb dX12_reckon_117 rfl (lv_at hl 0 rfl) ?_
            refine lv_aload_n hx hb dX12_reckon_118 rfl (lv_at hl 0 rfl) ?_
            obtain ⟨r43, wr43, hf⟩ := ha_bds hf
            obtain ⟨wr43, hr43⟩ := ha_rf_some wr43
            refine ha_getr hx hb hown hK hP q123 hN h0 wr43 dX12_reckon_119 ?_
            refine lv_iload_n hx hb dX12_reckon_122 rfl (lv_at hl 2 rfl) ?_
            obtain ⟨g44, hf⟩ := ha_gds hf
            refine ha_iald hx hb hK hP hN hr43 g44 dX12_reckon_123 ?_
            refine lv_iconst (v := 1) hx hb dX12_reckon_124 (by decide) ?_
            refine lv_iadd hx hb dX12_reckon_125 ?_
            refine lv_aload_n hx hb dX12_reckon_126 rfl (lv_at hl 0 rfl) ?_
            obtain ⟨r45, wr45, hf⟩ := ha_bds hf
            obtain ⟨wr45, hr45⟩ := ha_rf_some wr45
            refine ha_getr hx hb hown hK hP q120 hN h0 wr45 dX12_reckon_127 ?_
            refine lv_iload_n hx hb dX12_reckon_130 rfl (lv_at hl 2 rfl) ?_
            obtain ⟨g46, hf⟩ := ha_gds hf
            refine ha_iald hx hb hK hP hN hr45 g46 dX12_reckon_131 ?_
            refine lv_aload_n hx hb dX12_reckon_132 rfl (lv_at hl 0 rfl) ?_
            obtain ⟨r47, wr47, hf⟩ := ha_bds hf
            obtain ⟨wr47, hr47⟩ := ha_rf_some wr47
            refine ha_getr hx hb hown hK hP q126 hN h0 wr47 dX12_reckon_133 ?_
            refine lv_iload_n hx hb dX12_reckon_136 rfl (lv_at hl 2 rfl) ?_
            obtain ⟨g48, hf⟩ := ha_gds hf
            refine ha_iald hx hb hK hP hN hr47 g48 dX12_reckon_137 ?_
            refine lv_ineg hx hb dX12_reckon_138 ?_
            obtain ⟨z49, wz49, hf⟩ := ha_bds hf
            refine ha_callVv (As := [.int ((((ha_gA z42 r43 (v2 : Int32).toNatClampNeg) : Int32) + 1)), .int ((ha_gA z42 r45 (v2 : Int32).toNatClampNeg)), .int ((-(ha_gA z42 r47 (v2 : Int32).toNatClampNeg)))]) (rest := []) hZ ⟨hx, hb, hml, hown, hts⟩ hK hz hP hD hS (c_X12_bound hZ hN h0 wz49) cw1 hN h0 (by decide) rfl rfl hl.1 rfl (Nat.le_of_ble_eq_true rfl) dX12_reckon_139 ⟨Nat.le_of_ble_eq_true rfl, Nat.le_of_ble_eq_true rfl⟩ (fun H locs hP hD hS => ?_)
            exact J142 v2 z49 H locs ls hf  hP hD hS (lv_sub hl [0, 1, 2] rfl)
          · have hf := ha_if hf c35
            refine lv_goto (tgt := 142) hx hb dX12_reckon_90 (by decide) ?_
            exact J142 v2 S H locs ls hf  hP hD hS (lv_sub hl [0, 1, 2] rfl)
    refine key50 _ (fun  S H locs ls hf  hP hD hS hl => ?_) ha_fu 0 S H locs ls (ha_as hf)  hP hD hS (lv_sub hl [1, 2, 0] rfl)
    have hf : (f_X12_reckon_J148 p0 p1  S).bind some = some out := hf
    exact J148  S H locs ls hf  hP hD hS (lv_sub hl [0, 1] rfl)
  have J35 : ∀  (S : ha_St) (H : Heap) (locs : List Loc) (ls : Array Slot), (f_X12_reckon_J35 p0 p1  S).bind some = some out → va_P D vwCl (ha_wl cs ad mo_kd mo_ln N S) H → va_D (ha_A ad N) (ha_wl cs ad mo_kd mo_ln N S) → va_S (ha_A ad N) s.heap H locs → lv_has ls 5 [(0, .ref (ad p0)), (1, .int p1)] → W p l e (headSpec wsX12_reckon ({ frames := 1, cells := 0, slots := 0, locals := 23 } : Room)).room s m ([.ref (ad p0), .int p1] : List Value).toArray below meth c H locs 0 0 (MQ below (va_Qi (fun (r : Int32) (_ : Unit) => r = out.1) (fun _ => ha_H D cs ad mo_kd mo_ln N out.2) (ha_A ad N)) ([.ref (ad p0), .int p1] : List Value).toArray s 0 0 (ha_A ad N)) (F0 m 35 ls []) := by
    intro  S H locs ls hf  hP hD hS hl
    unfold f_X12_reckon_J35 at hf
    refine lv_iconst (v := 0) hx hb dX12_reckon_35 (by decide) ?_
    refine lv_istore_n (lv' := [(2, .int 0), (0, .ref (ad p0)), (1, .int p1)]) hx hb dX12_reckon_36 rfl hl (by decide) rfl (fun ls hl => ?_)
    have key56 : ∀ (K : (ha_St) → Option (Int32 × ha_St)), (∀  (S : ha_St) (H : Heap) (locs : List Loc) (ls : Array Slot), K S = some out → va_P D vwCl (ha_wl cs ad mo_kd mo_ln N S) H → va_D (ha_A ad N) (ha_wl cs ad mo_kd mo_ln N S) → va_S (ha_A ad N) s.heap H locs → lv_has ls 5 [(0, .ref (ad p0)), (1, .int p1)] → W p l e (headSpec wsX12_reckon ({ frames := 1, cells := 0, slots := 0, locals := 23 } : Room)).room s m ([.ref (ad p0), .int p1] : List Value).toArray below meth c H locs 0 0 (MQ below (va_Qi (fun (r : Int32) (_ : Unit) => r = out.1) (fun _ => ha_H D cs ad mo_kd mo_ln N out.2) (ha_A ad N)) ([.ref (ad p0), .int p1] : List Value).toArray s 0 0 (ha_A ad N)) (F0 m 70 ls [])) → ∀ (n : Nat) (v2 : Int32) (S : ha_St) (H : Heap) (locs : List Loc) (ls : Array Slot), (f_X12_reckon_L37i p0 p1 n (v2, S)).bind K = some out → va_P D vwCl (ha_wl cs ad mo_kd mo_ln N S) H → va_D (ha_A ad N) (ha_wl cs ad mo_kd mo_ln N S) → va_S (ha_A ad N) s.heap H locs → lv_has ls 5 [(0, .ref (ad p0)), (1, .int p1), (2, .int v2)] → W p l e (headSpec wsX12_reckon ({ frames := 1, cells := 0, slots := 0, locals := 23 } : Room)).room s m ([.ref (ad p0), .int p1] : List Value).toArray below meth c H locs 0 0 (MQ below (va_Qi (fun (r : Int32) (_ : Unit) => r = out.1) (fun _ => ha_H D cs ad mo_kd mo_ln N out.2) (ha_A ad N)) ([.ref (ad p0), .int p1] : List Value).toArray s 0 0 (ha_A ad N)) (F0 m 37 ls []) := by
      intro K hk n
      induction n with
      | zero =>
        intro v2 S H locs ls hf
        exact absurd (show (none : Option (Int32 × ha_St)) = some out from hf) (fun h => by cases h)
      | succ n ih =>
        intro v2 S H locs ls hf  hP hD hS hl
        have hf : (f_X12_reckon_L37 p0 p1 (f_X12_reckon_L37i p0 p1 n) v2 S).bind K = some out := hf
        unfold f_X12_reckon_L37 at hf
        refine lv_iload_n hx hb dX12_reckon_37 rfl (lv_at hl 2 rfl) ?_
        refine lv_aload_n hx hb dX12_reckon_38 rfl (lv_at hl 0 rfl) ?_
        refine ha_geti hx hb hown hK hP q13 hN h0 dX12_reckon_39 ?_
        refine lv_icmp_ge (tgt := 70) hx hb dX12_reckon_42 (by decide) (fun c52 => ?_) (fun c52 => ?_)
        · have hf := ha_it hf c52
          exact hk  S H locs ls hf  hP hD hS (lv_sub hl [0, 1] rfl)
        · have hf := ha_if hf c52
          refine lv_aload_n hx hb dX12_reckon_45 rfl (lv_at hl 0 rfl) ?_
          refine lv_iload_n hx hb dX12_reckon_46 rfl (lv_at hl 2 rfl) ?_
          refine lv_iload_n hx hb dX12_reckon_47 rfl (lv_at hl 2 rfl) ?_
          refine lv_iconst (v := 1) hx hb dX12_reckon_48 (by decide) ?_
          refine lv_iadd hx hb dX12_reckon_49 ?_
          refine lv_bipush (v := 9) hx hb dX12_reckon_50 (by decide) ?_
          obtain ⟨z53, wz53, hf⟩ := ha_bds hf
          refine ha_callVv (As := [.int v2, .int (((v2 : Int32) + 1)), .int 9]) (rest := []) hZ ⟨hx, hb, hml, hown, hts⟩ hK hz hP hD hS (c_X12_bound hZ hN h0 wz53) cw1 hN h0 (by decide) rfl rfl hl.1 rfl (Nat.le_of_ble_eq_true rfl) dX12_reckon_52 ⟨Nat.le_of_ble_eq_true rfl, Nat.le_of_ble_eq_true rfl⟩ (fun H locs hP hD hS => ?_)
          refine lv_aload_n hx hb dX12_reckon_55 rfl (lv_at hl 0 rfl) ?_
          refine lv_iload_n hx hb dX12_reckon_56 rfl (lv_at hl 2 rfl) ?_
          refine lv_iconst (v := 1) hx hb dX12_reckon_57 (by decide) ?_
          refine lv_iadd hx hb dX12_reckon_58 ?_
          refine lv_iload_n hx hb dX12_reckon_59 rfl (lv_at hl 2 rfl) ?_
          refine lv_iconst (v := (-1)) hx hb dX12_reckon_60 (by decide) ?_
          obtain ⟨z54, wz54, hf⟩ := ha_bds hf
          refine ha_callVv (As := [.int (((v2 : Int32) + 1)), .int v2, .int (-1)]) (rest := []) hZ ⟨hx, hb, hml, hown, hts⟩ hK hz hP hD hS (c_X12_bound hZ hN h0 wz54) cw1 hN h0 (by decide) rfl rfl hl.1 rfl (Nat.le_of_ble_eq_true rfl) dX12_reckon_61 ⟨Nat.le_of_ble_eq_true rfl, Nat.le_of_ble_eq_true rfl⟩ (fun H locs hP hD hS => ?_)
          obtain ⟨x55, ex55⟩ : ∃ y : Int32, y = (v2 : Int32) + 1 := ⟨_, rfl⟩
          have hf := ha_nms hf ex55
          refine lv_iinc (v := x55) (lv' := [(2, .int x55), (0, .ref (ad p0)), (1, .int p1)]) hx hb dX12_reckon_64 hl (k := 2) rfl (by rw [ex55]; rfl) (by decide) rfl (fun ls hl => ?_)
          refine lv_goto (tgt := 37) hx hb dX12_reckon_67 (by decide) ?_
          exact ih x55 z54 H locs ls hf  hP hD hS (lv_sub hl [1, 2, 0] rfl)
    refine key56 _ (fun  S H locs ls hf  hP hD hS hl => ?_) ha_fu 0 S H locs ls (ha_as hf)  hP hD hS (lv_sub hl [1, 2, 0] rfl)
    have hf : (f_X12_reckon_J70 p0 p1  S).bind some = some out := hf
    exact J70  S H locs ls hf  hP hD hS (lv_sub hl [0, 1] rfl)
  unfold f_X12_reckon at hf
  refine lv_iconst (v := 0) hx hb dX12_reckon_0 (by decide) ?_
  refine lv_istore_n (lv' := [(2, .int 0), (0, .ref (ad p0)), (1, .int p1)]) hx hb dX12_reckon_1 rfl hl (by decide) rfl (fun ls hl => ?_)
  have key64 : ∀ (K : (ha_St) → Option (Int32 × ha_St)), (∀  (S : ha_St) (H : Heap) (locs : List Loc) (ls : Array Slot), K S = some out → va_P D vwCl (ha_wl cs ad mo_kd mo_ln N S) H → va_D (ha_A ad N) (ha_wl cs ad mo_kd mo_ln N S) → va_S (ha_A ad N) s.heap H locs → lv_has ls 5 [(0, .ref (ad p0)), (1, .int p1)] → W p l e (headSpec wsX12_reckon ({ frames := 1, cells := 0, slots := 0, locals := 23 } : Room)).room s m ([.ref (ad p0), .int p1] : List Value).toArray below meth c H locs 0 0 (MQ below (va_Qi (fun (r : Int32) (_ : Unit) => r = out.1) (fun _ => ha_H D cs ad mo_kd mo_ln N out.2) (ha_A ad N)) ([.ref (ad p0), .int p1] : List Value).toArray s 0 0 (ha_A ad N)) (F0 m 35 ls [])) → ∀ (n : Nat) (v2 : Int32) (S : ha_St) (H : Heap) (locs : List Loc) (ls : Array Slot), (f_X12_reckon_L2i p0 p1 n (v2, S)).bind K = some out → va_P D vwCl (ha_wl cs ad mo_kd mo_ln N S) H → va_D (ha_A ad N) (ha_wl cs ad mo_kd mo_ln N S) → va_S (ha_A ad N) s.heap H locs → lv_has ls 5 [(0, .ref (ad p0)), (1, .int p1), (2, .int v2)] → W p l e (headSpec wsX12_reckon ({ frames := 1, cells := 0, slots := 0, locals := 23 } : Room)).room s m ([.ref (ad p0), .int p1] : List Value).toArray below meth c H locs 0 0 (MQ below (va_Qi (fun (r : Int32) (_ : Unit) => r = out.1) (fun _ => ha_H D cs ad mo_kd mo_ln N out.2) (ha_A ad N)) ([.ref (ad p0), .int p1] : List Value).toArray s 0 0 (ha_A ad N)) (F0 m 2 ls []) := by
    intro K hk n
    induction n with
    | zero =>
      intro v2 S H locs ls hf
      exact absurd (show (none : Option (Int32 × ha_St)) = some out from hf) (fun h => by cases h)
    | succ n ih =>
      intro v2 S H locs ls hf  hP hD hS hl
      have J28 : ∀ (v2 : Int32) (k0 : Nat) (k1 : Int32) (k2 : Int32) (S : ha_St) (H : Heap) (locs : List Loc) (ls : Array Slot), (f_X12_reckon_L2_J28 p0 p1 (f_X12_reckon_L2i p0 p1 n) v2 k0 k1 k2 S).bind K = some out → mo_kd k0 = 100 → va_P D vwCl (ha_wl cs ad mo_kd mo_ln N S) H → va_D (ha_A ad N) (ha_wl cs ad mo_kd mo_ln N S) → va_S (ha_A ad N) s.heap H locs → lv_has ls 5 [(0, .ref (ad p0)), (1, .int p1), (2, .int v2)] → W p l e (headSpec wsX12_reckon ({ frames := 1, cells := 0, slots := 0, locals := 23 } : Room)).room s m ([.ref (ad p0), .int p1] : List Value).toArray below meth c H locs 0 0 (MQ below (va_Qi (fun (r : Int32) (_ : Unit) => r = out.1) (fun _ => ha_H D cs ad mo_kd mo_ln N out.2) (ha_A ad N)) ([.ref (ad p0), .int p1] : List Value).toArray s 0 0 (ha_A ad N)) (F0 m 28 ls [.int k2, .int k1, .ref (ad k0)]) := by
        intro v2 k0 k1 k2 S H locs ls hf hk0 hP hD hS hl
        unfold f_X12_reckon_L2_J28 at hf
        obtain ⟨g58, hf⟩ := ha_gds hf
        refine ha_iast hx hb hK hP hD hS hN hk0 g58 dX12_reckon_28 (fun S59 H locs eS59 hP hD hS => ?_)
        have hf := ha_nms hf eS59
        obtain ⟨x60, ex60⟩ : ∃ y : Int32, y = (v2 : Int32) + 1 := ⟨_, rfl⟩
        have hf := ha_nms hf ex60
        refine lv_iinc (v := x60) (lv' := [(2, .int x60), (0, .ref (ad p0)), (1, .int p1)]) hx hb dX12_reckon_29 hl (k := 2) rfl (by rw [ex60]; rfl) (by decide) rfl (fun ls hl => ?_)
        refine lv_goto (tgt := 2) hx hb dX12_reckon_32 (by decide) ?_
        exact ih x60 S59 H locs ls hf  hP hD hS (lv_sub hl [1, 2, 0] rfl)
      have hf : (f_X12_reckon_L2 p0 p1 (f_X12_reckon_L2i p0 p1 n) v2 S).bind K = some out := hf
      unfold f_X12_reckon_L2 at hf
      refine lv_iload_n hx hb dX12_reckon_2 rfl (lv_at hl 2 rfl) ?_
      refine lv_sipush (v := 289) hx hb dX12_reckon_3 (by decide) ?_
      refine lv_icmp_ge (tgt := 35) hx hb dX12_reckon_6 (by decide) (fun c61 => ?_) (fun c61 => ?_)
      · have hf := ha_it hf c61
        exact hk  S H locs ls hf  hP hD hS (lv_sub hl [0, 1] rfl)
      · have hf := ha_if hf c61
        refine lv_aload_n hx hb dX12_reckon_9 rfl (lv_at hl 0 rfl) ?_
        obtain ⟨r62, wr62, hf⟩ := ha_bds hf
        obtain ⟨wr62, hr62⟩ := ha_rf_some wr62
        refine ha_getr hx hb hown hK hP q132 hN h0 wr62 dX12_reckon_10 ?_
        refine lv_iload_n hx hb dX12_reckon_13 rfl (lv_at hl 2 rfl) ?_
        refine lv_iload_n hx hb dX12_reckon_14 rfl (lv_at hl 2 rfl) ?_
        refine lv_bipush (v := 18) hx hb dX12_reckon_15 (by decide) ?_
        refine lv_irem hx hb dX12_reckon_17 (by decide) ?_
        refine lv_if_ne (tgt := 25) hx hb dX12_reckon_18 (by decide) (fun c63 => ?_) (fun c63 => ?_)
        · have hf := ha_it hf c63
          refine lv_ldcw hx hb hown cn380 dX12_reckon_25 ?_
          exact J28 v2 r62 v2 100000 S H locs ls hf hr62 hP hD hS (lv_sub hl [0, 1, 2] rfl)
        · have hf := ha_if hf (fun q => q c63)
          refine lv_iconst (v := 0) hx hb dX12_reckon_21 (by decide) ?_
          refine lv_goto (tgt := 28) hx hb dX12_reckon_22 (by decide) ?_
          exact J28 v2 r62 v2 0 S H locs ls hf hr62 hP hD hS (lv_sub hl [0, 1, 2] rfl)
  refine key64 _ (fun  S H locs ls hf  hP hD hS hl => ?_) ha_fu 0 S H locs ls (ha_as hf)  hP hD hS (lv_sub hl [1, 2, 0] rfl)
  have hf : (f_X12_reckon_J35 p0 p1  S).bind some = some out := hf
  exact J35  S H locs ls hf  hP hD hS (lv_sub hl [0, 1] rfl)

set_option maxHeartbeats 4000000 in
set_option maxRecDepth 100000 in
theorem c_X12_delay {l : Launch} {D : va_G} {cs : Nat → ClassId} {ad : Nat → Nat} {N : List Nat} {Z : State → Prop} (hZ : ha_Zok (ha_A ad N) Z) (hN : ∀ x, mo_kd x < 999 → x ∈ N) {p0 : Nat} {p1 : Int32} {p2 : Int32} {p3 : Int32} {S : ha_St} {out : Int32 × ha_St} (h0 : mo_kd p0 = 12) (hf : f_X12_delay p0 p1 p2 p3 S = some out) : ha_Ci l D cs ad mo_kd mo_ln N Z yX12_delay wsX12_delay ({ frames := 2, cells := 0, slots := 0, locals := 47 } : Room) [.ref (ad p0), .int p1, .int p2, .int p3] S out.1 out.2 := by
  refine Met.ofW (cc := cX12_delay) (maxL := 4) (ret := (some .int)) (by decide +kernel) rfl ?_
  intro p e s m args below meth c s₁ B hml hv
  obtain ⟨rfl, hP, hD, hK, hz⟩ := hv
  have hx := B.exec
  have hb := B.bytes
  have hr := B.returns
  have hts := atoms_spec (ws := wsX12_delay) B.pre
  have hown : s.vm.findClass RX12 = some m.cls := findClass_of_methodNamed B.named
  have hlocks := B.notSynchronized
  have hS : va_S (ha_A ad N) s.heap s.heap [] := va_S.rf
  have hi12 : ∀ w ∈ wsX120, w ∈ wsX12_delay := fun w h => List.mem_cons_of_mem _ (List.mem_append_right _ h)
  have q13 : ha_Fk s ([.ref (ad p0), .int p1, .int p2, .int p3] : List Value).toArray RX12 13 12 4 0 := ⟨RX12, TX12, 83, wsX12_delay, rfl, by decide, by decide, rfl, rfl, hts, hi12, hts (.fieldLink RX12 13 "HillArmsModel" "n" "I") (by decide +kernel)⟩
  have q132 : ha_Fk s ([.ref (ad p0), .int p1, .int p2, .int p3] : List Value).toArray RX12 132 12 79 1 := ⟨RX12, TX12, 83, wsX12_delay, rfl, by decide, by decide, rfl, rfl, hts, hi12, hts (.fieldLink RX12 132 "HillArmsModel" "above" "[I") (by decide +kernel)⟩
  have r138 : ha_Fp s ([.ref (ad p0), .int p1, .int p2, .int p3] : List Value).toArray RX12 138 12 0 0 .int := ⟨RX12, TX12, 83, wsX12_delay, tyX12, rfl, by decide, by decide, rfl, rfl, hts, hi12, hts (.fieldLink RX12 138 "HillArmsModel" "thrown" "I") (by decide +kernel), tyX12_ok, nmX12, rfl, by decide +kernel⟩
  have cw0 := va_cwS (R := (headSpec wsX12_delay ({ frames := 2, cells := 0, slots := 0, locals := 47 } : Room)).room) 3 hts gX12_delay_X12_isIn (rm := ({ frames := 0, cells := 0, slots := 0, locals := 0 } : Room)) (mc := 0) (ms := 0) rfl rfl rfl (by decide +kernel) ⟨Nat.le_of_ble_eq_true rfl, Nat.le_of_ble_eq_true rfl⟩
  have cw1 := cwV (R := (headSpec wsX12_delay ({ frames := 2, cells := 0, slots := 0, locals := 47 } : Room)).room) 1 hts gX12_delay_X12_reckon (rm := ({ frames := 1, cells := 0, slots := 0, locals := 23 } : Room)) (mc := 0) (ms := 0) rfl rfl rfl (by decide +kernel) ⟨Nat.le_of_ble_eq_true rfl, Nat.le_of_ble_eq_true rfl⟩
  have hl := lv_entry ([.ref (ad p0), .int p1, .int p2, .int p3]) (n := 4) (Nat.le_of_ble_eq_true rfl)
  rw [lg_entry_eq]
  generalize (lg_sl ([.ref (ad p0), .int p1, .int p2, .int p3]) ++ List.replicate (4 - (lg_sl ([.ref (ad p0), .int p1, .int p2, .int p3])).length) Slot.unset).toArray = ls at hl ⊢
  have hl : lv_has ls 4 [(0, .ref (ad p0)), (1, .int p1), (2, .int p2), (3, .int p3)] := hl
  refine (fun (K0 : ∀ (H : Heap) (locs : List Loc), va_P D vwCl (ha_wl cs ad mo_kd mo_ln N S) H → va_S (ha_A ad N) s.heap H locs → W p l e (headSpec wsX12_delay ({ frames := 2, cells := 0, slots := 0, locals := 47 } : Room)).room s m ([.ref (ad p0), .int p1, .int p2, .int p3] : List Value).toArray below meth c H locs 0 0 (MQ below (va_Qi (fun (r : Int32) (_ : Unit) => r = out.1) (fun _ => ha_H D cs ad mo_kd mo_ln N out.2) (ha_A ad N)) ([.ref (ad p0), .int p1, .int p2, .int p3] : List Value).toArray s 0 0 (ha_A ad N)) (F0 m 0 ls [])) => K0 _ _ hP hS) ?_
  intro H locs hP hS
  have hf := ha_rt hf
  have J75 : ∀ (k0 : Int32) (S : ha_St) (H : Heap) (locs : List Loc) (ls : Array Slot), (f_X12_delay_J75 p0 p1 p2 p3 k0 S).bind some = some out → va_P D vwCl (ha_wl cs ad mo_kd mo_ln N S) H → va_D (ha_A ad N) (ha_wl cs ad mo_kd mo_ln N S) → va_S (ha_A ad N) s.heap H locs → lv_has ls 4 [(0, .ref (ad p0)), (1, .int p1), (2, .int p2), (3, .int p3)] → W p l e (headSpec wsX12_delay ({ frames := 2, cells := 0, slots := 0, locals := 47 } : Room)).room s m ([.ref (ad p0), .int p1, .int p2, .int p3] : List Value).toArray below meth c H locs 0 0 (MQ below (va_Qi (fun (r : Int32) (_ : Unit) => r = out.1) (fun _ => ha_H D cs ad mo_kd mo_ln N out.2) (ha_A ad N)) ([.ref (ad p0), .int p1, .int p2, .int p3] : List Value).toArray s 0 0 (ha_A ad N)) (F0 m 75 ls [.int k0]) := by
    intro k0 S H locs ls hf  hP hD hS hl
    unfold f_X12_delay_J75 at hf
    have he := Option.some.inj hf
    exact ha_reti hx hb hr hlocks hP hD hS dX12_delay_75 (ha_e1 he) (ha_e2 he)
  have J28 : ∀  (S : ha_St) (H : Heap) (locs : List Loc) (ls : Array Slot), (f_X12_delay_J28 p0 p1 p2 p3  S).bind some = some out → va_P D vwCl (ha_wl cs ad mo_kd mo_ln N S) H → va_D (ha_A ad N) (ha_wl cs ad mo_kd mo_ln N S) → va_S (ha_A ad N) s.heap H locs → lv_has ls 4 [(0, .ref (ad p0)), (1, .int p1), (2, .int p2), (3, .int p3)] → W p l e (headSpec wsX12_delay ({ frames := 2, cells := 0, slots := 0, locals := 47 } : Room)).room s m ([.ref (ad p0), .int p1, .int p2, .int p3] : List Value).toArray below meth c H locs 0 0 (MQ below (va_Qi (fun (r : Int32) (_ : Unit) => r = out.1) (fun _ => ha_H D cs ad mo_kd mo_ln N out.2) (ha_A ad N)) ([.ref (ad p0), .int p1, .int p2, .int p3] : List Value).toArray s 0 0 (ha_A ad N)) (F0 m 28 ls []) := by
    intro  S H locs ls hf  hP hD hS hl
    unfold f_X12_delay_J28 at hf
    refine lv_iconst (v := (-1)) hx hb dX12_delay_28 (by decide) ?_
    have he := Option.some.inj hf
    exact ha_reti hx hb hr hlocks hP hD hS dX12_delay_29 (ha_e1 he) (ha_e2 he)
  unfold f_X12_delay at hf
  refine lv_aload_n hx hb dX12_delay_0 rfl (lv_at hl 0 rfl) ?_
  refine lv_iconst (v := 0) hx hb dX12_delay_1 (by decide) ?_
  refine ha_puti hx hb hown hK hP hD hS r138 hN h0 dX12_delay_2 (fun S1 H locs eS1 hP hD hS => ?_)
  have hf := ha_nms hf eS1
  refine lv_iload_n hx hb dX12_delay_5 rfl (lv_at hl 1 rfl) ?_
  refine lv_iconst (v := 0) hx hb dX12_delay_6 (by decide) ?_
  refine lv_aload_n hx hb dX12_delay_7 rfl (lv_at hl 0 rfl) ?_
  refine ha_geti hx hb hown hK hP q13 hN h0 dX12_delay_8 ?_
  refine lv_iconst (v := 1) hx hb dX12_delay_11 (by decide) ?_
  refine lv_isub hx hb dX12_delay_12 ?_
  obtain ⟨z2, wz2, hf⟩ := ha_bds hf
  refine ha_callSi (As := [.int p1, .int 0, .int ((((ha_gI S1 p0 4) : Int32) - 1))]) (rest := []) hZ ⟨hx, hb, hml, hown, hts⟩ hK hz hP hD hS (c_X12_isIn   wz2) cw0 rfl hl.1 rfl (Nat.le_of_ble_eq_true rfl) dX12_delay_13 ⟨Nat.le_of_ble_eq_true rfl, Nat.le_of_ble_eq_true rfl⟩ (fun H locs hP hD hS => ?_)
  refine lv_if_eq (tgt := 28) hx hb dX12_delay_16 (by decide) (fun c3 => ?_) (fun c3 => ?_)
  · have hf := ha_it hf c3
    exact J28  S1 H locs ls hf  hP hD hS (lv_sub hl [0, 1, 2, 3] rfl)
  · have hf := ha_if hf c3
    refine lv_iload_n hx hb dX12_delay_19 rfl (lv_at hl 3 rfl) ?_
    refine lv_iconst (v := 0) hx hb dX12_delay_20 (by decide) ?_
    refine lv_iconst (v := 1) hx hb dX12_delay_21 (by decide) ?_
    obtain ⟨z4, wz4, hf⟩ := ha_bds hf
    refine ha_callSi (As := [.int p3, .int 0, .int 1]) (rest := []) hZ ⟨hx, hb, hml, hown, hts⟩ hK hz hP hD hS (c_X12_isIn   wz4) cw0 rfl hl.1 rfl (Nat.le_of_ble_eq_true rfl) dX12_delay_22 ⟨Nat.le_of_ble_eq_true rfl, Nat.le_of_ble_eq_true rfl⟩ (fun H locs hP hD hS => ?_)
    refine lv_if_ne (tgt := 30) hx hb dX12_delay_25 (by decide) (fun c5 => ?_) (fun c5 => ?_)
    · have hf := ha_it hf c5
      refine lv_aload_n hx hb dX12_delay_30 rfl (lv_at hl 0 rfl) ?_
      refine lv_iload_n hx hb dX12_delay_31 rfl (lv_at hl 2 rfl) ?_
      obtain ⟨z6, wz6, hf⟩ := ha_bds hf
      refine ha_callVi (As := [.int p2]) (rest := []) hZ ⟨hx, hb, hml, hown, hts⟩ hK hz hP hD hS (c_X12_reckon hZ hN h0 wz6) cw1 hN h0 (by decide) rfl rfl hl.1 rfl (Nat.le_of_ble_eq_true rfl) dX12_delay_32 ⟨Nat.le_of_ble_eq_true rfl, Nat.le_of_ble_eq_true rfl⟩ (fun H locs hP hD hS => ?_)
      refine lv_if_ne (tgt := 41) hx hb dX12_delay_35 (by decide) (fun c7 => ?_) (fun c7 => ?_)
      · have hf := ha_it hf c7
        refine lv_iload_n hx hb dX12_delay_41 rfl (lv_at hl 3 rfl) ?_
        refine lv_if_ne (tgt := 62) hx hb dX12_delay_42 (by decide) (fun c8 => ?_) (fun c8 => ?_)
        · have hf := ha_it hf c8
          refine lv_aload_n hx hb dX12_delay_62 rfl (lv_at hl 0 rfl) ?_
          obtain ⟨r9, wr9, hf⟩ := ha_bds hf
          obtain ⟨wr9, hr9⟩ := ha_rf_some wr9
          refine ha_getr hx hb hown hK hP q132 hN h0 wr9 dX12_delay_63 ?_
          refine lv_bipush (v := 17) hx hb dX12_delay_66 (by decide) ?_
          refine lv_iload_n hx hb dX12_delay_68 rfl (lv_at hl 1 rfl) ?_
          refine lv_imul hx hb dX12_delay_69 ?_
          refine lv_iload_n hx hb dX12_delay_70 rfl (lv_at hl 1 rfl) ?_
          refine lv_iadd hx hb dX12_delay_71 ?_
          refine lv_iconst (v := 1) hx hb dX12_delay_72 (by decide) ?_
          refine lv_iadd hx hb dX12_delay_73 ?_
          obtain ⟨g10, hf⟩ := ha_gds hf
          refine ha_iald hx hb hK hP hN hr9 g10 dX12_delay_74 ?_
          exact J75 ((ha_gA z6.2 r9 (((((((17 : Int32) * p1) : Int32) + p1) : Int32) + 1) : Int32).toNatClampNeg)) z6.2 H locs ls hf  hP hD hS (lv_sub hl [0, 1, 2, 3] rfl)
        · have hf := ha_if hf (fun q => q c8)
          refine lv_aload_n hx hb dX12_delay_45 rfl (lv_at hl 0 rfl) ?_
          obtain ⟨r11, wr11, hf⟩ := ha_bds hf
          obtain ⟨wr11, hr11⟩ := ha_rf_some wr11
          refine ha_getr hx hb hown hK hP q132 hN h0 wr11 dX12_delay_46 ?_
          refine lv_bipush (v := 17) hx hb dX12_delay_49 (by decide) ?_
          refine lv_iload_n hx hb dX12_delay_51 rfl (lv_at hl 1 rfl) ?_
          refine lv_iconst (v := 1) hx hb dX12_delay_52 (by decide) ?_
          refine lv_iadd hx hb dX12_delay_53 ?_
          refine lv_imul hx hb dX12_delay_54 ?_
          refine lv_iload_n hx hb dX12_delay_55 rfl (lv_at hl 1 rfl) ?_
          refine lv_iadd hx hb dX12_delay_56 ?_
          obtain ⟨g12, hf⟩ := ha_gds hf
          refine ha_iald hx hb hK hP hN hr11 g12 dX12_delay_57 ?_
          refine lv_ineg hx hb dX12_delay_58 ?_
          refine lv_goto (tgt := 75) hx hb dX12_delay_59 (by decide) ?_
          exact J75 ((-(ha_gA z6.2 r11 (((((17 : Int32) * ((p1 : Int32) + 1)) : Int32) + p1) : Int32).toNatClampNeg))) z6.2 H locs ls hf  hP hD hS (lv_sub hl [0, 1, 2, 3] rfl)
      · have hf := ha_if hf (fun q => q c7)
        refine lv_bipush (v := (-2)) hx hb dX12_delay_38 (by decide) ?_
        have he := Option.some.inj hf
        exact ha_reti hx hb hr hlocks hP hD hS dX12_delay_40 (ha_e1 he) (ha_e2 he)
    · have hf := ha_if hf (fun q => q c5)
      exact J28  S1 H locs ls hf  hP hD hS (lv_sub hl [0, 1, 2, 3] rfl)

set_option maxHeartbeats 4000000 in
set_option maxRecDepth 100000 in
theorem c_X12_look {l : Launch} {D : va_G} {cs : Nat → ClassId} {ad : Nat → Nat} {N : List Nat} {Z : State → Prop} (hZ : ha_Zok (ha_A ad N) Z) (hN : ∀ x, mo_kd x < 999 → x ∈ N) {p0 : Nat} {p1 : Int32} {S : ha_St} {out : Int32 × ha_St} (h0 : mo_kd p0 = 12) (hf : f_X12_look p0 p1 S = some out) : ha_Ci l D cs ad mo_kd mo_ln N Z yX12_look wsX12_look ({ frames := 2, cells := 0, slots := 0, locals := 47 } : Room) [.ref (ad p0), .int p1] S out.1 out.2 := by
  refine Met.ofW (cc := cX12_look) (maxL := 6) (ret := (some .int)) (by decide +kernel) rfl ?_
  intro p e s m args below meth c s₁ B hml hv
  obtain ⟨rfl, hP, hD, hK, hz⟩ := hv
  have hx := B.exec
  have hb := B.bytes
  have hr := B.returns
  have hts := atoms_spec (ws := wsX12_look) B.pre
  have hown : s.vm.findClass RX12 = some m.cls := findClass_of_methodNamed B.named
  have hlocks := B.notSynchronized
  have hS : va_S (ha_A ad N) s.heap s.heap [] := va_S.rf
  have hi12 : ∀ w ∈ wsX120, w ∈ wsX12_look := fun w h => List.mem_cons_of_mem _ (List.mem_append_right _ h)
  have q13 : ha_Fk s ([.ref (ad p0), .int p1] : List Value).toArray RX12 13 12 4 0 := ⟨RX12, TX12, 83, wsX12_look, rfl, by decide, by decide, rfl, rfl, hts, hi12, hts (.fieldLink RX12 13 "HillArmsModel" "n" "I") (by decide +kernel)⟩
  have q132 : ha_Fk s ([.ref (ad p0), .int p1] : List Value).toArray RX12 132 12 79 1 := ⟨RX12, TX12, 83, wsX12_look, rfl, by decide, by decide, rfl, rfl, hts, hi12, hts (.fieldLink RX12 132 "HillArmsModel" "above" "[I") (by decide +kernel)⟩
  have r138 : ha_Fp s ([.ref (ad p0), .int p1] : List Value).toArray RX12 138 12 0 0 .int := ⟨RX12, TX12, 83, wsX12_look, tyX12, rfl, by decide, by decide, rfl, rfl, hts, hi12, hts (.fieldLink RX12 138 "HillArmsModel" "thrown" "I") (by decide +kernel), tyX12_ok, nmX12, rfl, by decide +kernel⟩
  have cw0 := cwV (R := (headSpec wsX12_look ({ frames := 2, cells := 0, slots := 0, locals := 47 } : Room)).room) 1 hts gX12_look_X12_reckon (rm := ({ frames := 1, cells := 0, slots := 0, locals := 23 } : Room)) (mc := 0) (ms := 0) rfl rfl rfl (by decide +kernel) ⟨Nat.le_of_ble_eq_true rfl, Nat.le_of_ble_eq_true rfl⟩
  have hl := lv_entry ([.ref (ad p0), .int p1]) (n := 6) (Nat.le_of_ble_eq_true rfl)
  rw [lg_entry_eq]
  generalize (lg_sl ([.ref (ad p0), .int p1]) ++ List.replicate (6 - (lg_sl ([.ref (ad p0), .int p1])).length) Slot.unset).toArray = ls at hl ⊢
  have hl : lv_has ls 6 [(0, .ref (ad p0)), (1, .int p1)] := hl
  refine (fun (K0 : ∀ (H : Heap) (locs : List Loc), va_P D vwCl (ha_wl cs ad mo_kd mo_ln N S) H → va_S (ha_A ad N) s.heap H locs → W p l e (headSpec wsX12_look ({ frames := 2, cells := 0, slots := 0, locals := 47 } : Room)).room s m ([.ref (ad p0), .int p1] : List Value).toArray below meth c H locs 0 0 (MQ below (va_Qi (fun (r : Int32) (_ : Unit) => r = out.1) (fun _ => ha_H D cs ad mo_kd mo_ln N out.2) (ha_A ad N)) ([.ref (ad p0), .int p1] : List Value).toArray s 0 0 (ha_A ad N)) (F0 m 0 ls [])) => K0 _ _ hP hS) ?_
  intro H locs hP hS
  have hf := ha_rt hf
  have J86 : ∀ (v2 : Int32) (S : ha_St) (H : Heap) (locs : List Loc) (ls : Array Slot), (f_X12_look_J86 p0 p1 v2 S).bind some = some out → va_P D vwCl (ha_wl cs ad mo_kd mo_ln N S) H → va_D (ha_A ad N) (ha_wl cs ad mo_kd mo_ln N S) → va_S (ha_A ad N) s.heap H locs → lv_has ls 6 [(0, .ref (ad p0)), (1, .int p1), (2, .int v2)] → W p l e (headSpec wsX12_look ({ frames := 2, cells := 0, slots := 0, locals := 47 } : Room)).room s m ([.ref (ad p0), .int p1] : List Value).toArray below meth c H locs 0 0 (MQ below (va_Qi (fun (r : Int32) (_ : Unit) => r = out.1) (fun _ => ha_H D cs ad mo_kd mo_ln N out.2) (ha_A ad N)) ([.ref (ad p0), .int p1] : List Value).toArray s 0 0 (ha_A ad N)) (F0 m 86 ls []) := by
    intro v2 S H locs ls hf  hP hD hS hl
    unfold f_X12_look_J86 at hf
    refine lv_iload_n hx hb dX12_look_86 rfl (lv_at hl 2 rfl) ?_
    have he := Option.some.inj hf
    exact ha_reti hx hb hr hlocks hP hD hS dX12_look_87 (ha_e1 he) (ha_e2 he)
  unfold f_X12_look at hf
  refine lv_aload_n hx hb dX12_look_0 rfl (lv_at hl 0 rfl) ?_
  refine lv_iconst (v := 0) hx hb dX12_look_1 (by decide) ?_
  refine ha_puti hx hb hown hK hP hD hS r138 hN h0 dX12_look_2 (fun S1 H locs eS1 hP hD hS => ?_)
  have hf := ha_nms hf eS1
  refine lv_aload_n hx hb dX12_look_5 rfl (lv_at hl 0 rfl) ?_
  refine lv_iload_n hx hb dX12_look_6 rfl (lv_at hl 1 rfl) ?_
  obtain ⟨z2, wz2, hf⟩ := ha_bds hf
  refine ha_callVi (As := [.int p1]) (rest := []) hZ ⟨hx, hb, hml, hown, hts⟩ hK hz hP hD hS (c_X12_reckon hZ hN h0 wz2) cw0 hN h0 (by decide) rfl rfl hl.1 rfl (Nat.le_of_ble_eq_true rfl) dX12_look_7 ⟨Nat.le_of_ble_eq_true rfl, Nat.le_of_ble_eq_true rfl⟩ (fun H locs hP hD hS => ?_)
  refine lv_if_ne (tgt := 16) hx hb dX12_look_10 (by decide) (fun c3 => ?_) (fun c3 => ?_)
  · have hf := ha_it hf c3
    refine lv_iconst (v := 0) hx hb dX12_look_16 (by decide) ?_
    refine lv_istore_n (lv' := [(2, .int 0), (0, .ref (ad p0)), (1, .int p1)]) hx hb dX12_look_17 rfl hl (by decide) rfl (fun ls hl => ?_)
    refine lv_iconst (v := (-1)) hx hb dX12_look_18 (by decide) ?_
    refine lv_istore_n (lv' := [(3, .int (-1)), (2, .int 0), (0, .ref (ad p0)), (1, .int p1)]) hx hb dX12_look_19 rfl hl (by decide) rfl (fun ls hl => ?_)
    refine lv_iconst (v := 0) hx hb dX12_look_20 (by decide) ?_
    refine lv_istore (lv' := [(4, .int 0), (3, .int (-1)), (2, .int 0), (0, .ref (ad p0)), (1, .int p1)]) hx hb dX12_look_21 hl (by decide) rfl (fun ls hl => ?_)
    have key12 : ∀ (K : (Int32 × ha_St) → Option (Int32 × ha_St)), (∀ (v2 : Int32) (S : ha_St) (H : Heap) (locs : List Loc) (ls : Array Slot), K (v2, S) = some out → va_P D vwCl (ha_wl cs ad mo_kd mo_ln N S) H → va_D (ha_A ad N) (ha_wl cs ad mo_kd mo_ln N S) → va_S (ha_A ad N) s.heap H locs → lv_has ls 6 [(0, .ref (ad p0)), (1, .int p1), (2, .int v2)] → W p l e (headSpec wsX12_look ({ frames := 2, cells := 0, slots := 0, locals := 47 } : Room)).room s m ([.ref (ad p0), .int p1] : List Value).toArray below meth c H locs 0 0 (MQ below (va_Qi (fun (r : Int32) (_ : Unit) => r = out.1) (fun _ => ha_H D cs ad mo_kd mo_ln N out.2) (ha_A ad N)) ([.ref (ad p0), .int p1] : List Value).toArray s 0 0 (ha_A ad N)) (F0 m 86 ls [])) → ∀ (n : Nat) (v2 : Int32) (v3 : Int32) (v4 : Int32) (S : ha_St) (H : Heap) (locs : List Loc) (ls : Array Slot), (f_X12_look_L23i p0 p1 n (v2, v3, v4, S)).bind K = some out → va_P D vwCl (ha_wl cs ad mo_kd mo_ln N S) H → va_D (ha_A ad N) (ha_wl cs ad mo_kd mo_ln N S) → va_S (ha_A ad N) s.heap H locs → lv_has ls 6 [(0, .ref (ad p0)), (1, .int p1), (2, .int v2), (3, .int v3), (4, .int v4)] → W p l e (headSpec wsX12_look ({ frames := 2, cells := 0, slots := 0, locals := 47 } : Room)).room s m ([.ref (ad p0), .int p1] : List Value).toArray below meth c H locs 0 0 (MQ below (va_Qi (fun (r : Int32) (_ : Unit) => r = out.1) (fun _ => ha_H D cs ad mo_kd mo_ln N out.2) (ha_A ad N)) ([.ref (ad p0), .int p1] : List Value).toArray s 0 0 (ha_A ad N)) (F0 m 23 ls []) := by
      intro K hk n
      induction n with
      | zero =>
        intro v2 v3 v4 S H locs ls hf
        exact absurd (show (none : Option (Int32 × ha_St)) = some out from hf) (fun h => by cases h)
      | succ n ih =>
        intro v2 v3 v4 S H locs ls hf  hP hD hS hl
        have J80 : ∀ (v2 : Int32) (v3 : Int32) (v4 : Int32) (S : ha_St) (H : Heap) (locs : List Loc) (ls : Array Slot), (f_X12_look_L23_J80 p0 p1 (f_X12_look_L23i p0 p1 n) v2 v3 v4 S).bind K = some out → va_P D vwCl (ha_wl cs ad mo_kd mo_ln N S) H → va_D (ha_A ad N) (ha_wl cs ad mo_kd mo_ln N S) → va_S (ha_A ad N) s.heap H locs → lv_has ls 6 [(0, .ref (ad p0)), (1, .int p1), (2, .int v2), (3, .int v3), (4, .int v4)] → W p l e (headSpec wsX12_look ({ frames := 2, cells := 0, slots := 0, locals := 47 } : Room)).room s m ([.ref (ad p0), .int p1] : List Value).toArray below meth c H locs 0 0 (MQ below (va_Qi (fun (r : Int32) (_ : Unit) => r = out.1) (fun _ => ha_H D cs ad mo_kd mo_ln N out.2) (ha_A ad N)) ([.ref (ad p0), .int p1] : List Value).toArray s 0 0 (ha_A ad N)) (F0 m 80 ls []) := by
          intro v2 v3 v4 S H locs ls hf  hP hD hS hl
          unfold f_X12_look_L23_J80 at hf
          obtain ⟨x4, ex4⟩ : ∃ y : Int32, y = (v4 : Int32) + 1 := ⟨_, rfl⟩
          have hf := ha_nms hf ex4
          refine lv_iinc (v := x4) (lv' := [(4, .int x4), (0, .ref (ad p0)), (1, .int p1), (2, .int v2), (3, .int v3)]) hx hb dX12_look_80 hl (k := 4) rfl (by rw [ex4]; rfl) (by decide) rfl (fun ls hl => ?_)
          refine lv_goto (tgt := 23) hx hb dX12_look_83 (by decide) ?_
          exact ih v2 v3 x4 S H locs ls hf  hP hD hS (lv_sub hl [1, 2, 3, 4, 0] rfl)
        have hf : (f_X12_look_L23 p0 p1 (f_X12_look_L23i p0 p1 n) v2 v3 v4 S).bind K = some out := hf
        unfold f_X12_look_L23 at hf
        refine lv_iload hx hb dX12_look_23 (lv_at hl 4 rfl) ?_
        refine lv_aload_n hx hb dX12_look_25 rfl (lv_at hl 0 rfl) ?_
        refine ha_geti hx hb hown hK hP q13 hN h0 dX12_look_26 ?_
        refine lv_icmp_ge (tgt := 86) hx hb dX12_look_29 (by decide) (fun c5 => ?_) (fun c5 => ?_)
        · have hf := ha_it hf c5
          exact hk v2 S H locs ls hf  hP hD hS (lv_sub hl [0, 1, 2] rfl)
        · have hf := ha_if hf c5
          refine lv_aload_n hx hb dX12_look_32 rfl (lv_at hl 0 rfl) ?_
          obtain ⟨r6, wr6, hf⟩ := ha_bds hf
          obtain ⟨wr6, hr6⟩ := ha_rf_some wr6
          refine ha_getr hx hb hown hK hP q132 hN h0 wr6 dX12_look_33 ?_
          refine lv_bipush (v := 17) hx hb dX12_look_36 (by decide) ?_
          refine lv_iload hx hb dX12_look_38 (lv_at hl 4 rfl) ?_
          refine lv_imul hx hb dX12_look_40 ?_
          refine lv_iload hx hb dX12_look_41 (lv_at hl 4 rfl) ?_
          refine lv_iadd hx hb dX12_look_43 ?_
          refine lv_iconst (v := 1) hx hb dX12_look_44 (by decide) ?_
          refine lv_iadd hx hb dX12_look_45 ?_
          obtain ⟨g7, hf⟩ := ha_gds hf
          refine ha_iald hx hb hK hP hN hr6 g7 dX12_look_46 ?_
          refine lv_aload_n hx hb dX12_look_47 rfl (lv_at hl 0 rfl) ?_
          obtain ⟨r8, wr8, hf⟩ := ha_bds hf
          obtain ⟨wr8, hr8⟩ := ha_rf_some wr8
          refine ha_getr hx hb hown hK hP q132 hN h0 wr8 dX12_look_48 ?_
          refine lv_bipush (v := 17) hx hb dX12_look_51 (by decide) ?_
          refine lv_iload hx hb dX12_look_53 (lv_at hl 4 rfl) ?_
          refine lv_iconst (v := 1) hx hb dX12_look_55 (by decide) ?_
          refine lv_iadd hx hb dX12_look_56 ?_
          refine lv_imul hx hb dX12_look_57 ?_
          refine lv_iload hx hb dX12_look_58 (lv_at hl 4 rfl) ?_
          refine lv_iadd hx hb dX12_look_60 ?_
          obtain ⟨g9, hf⟩ := ha_gds hf
          refine ha_iald hx hb hK hP hN hr8 g9 dX12_look_61 ?_
          refine lv_iadd hx hb dX12_look_62 ?_
          refine lv_topi (fun x10 ex10 => ?_)
          have hf := ha_nms hf ex10
          refine lv_istore (lv' := [(5, .int x10), (0, .ref (ad p0)), (1, .int p1), (2, .int v2), (3, .int v3), (4, .int v4)]) hx hb dX12_look_63 hl (by decide) rfl (fun ls hl => ?_)
          refine lv_iload hx hb dX12_look_65 (lv_at hl 0 rfl) ?_
          refine lv_iload_n hx hb dX12_look_67 rfl (lv_at hl 4 rfl) ?_
          refine lv_icmp_gt (tgt := 74) hx hb dX12_look_68 (by decide) (fun c11 => ?_) (fun c11 => ?_)
          · have hf := ha_it hf c11
            refine lv_iload hx hb dX12_look_74 (lv_at hl 0 rfl) ?_
            refine lv_istore_n (lv' := [(3, .int x10), (5, .int x10), (0, .ref (ad p0)), (1, .int p1), (2, .int v2), (4, .int v4)]) hx hb dX12_look_76 rfl hl (by decide) rfl (fun ls hl => ?_)
            refine lv_iload hx hb dX12_look_77 (lv_at hl 5 rfl) ?_
            refine lv_istore_n (lv' := [(2, .int v4), (3, .int x10), (5, .int x10), (0, .ref (ad p0)), (1, .int p1), (4, .int v4)]) hx hb dX12_look_79 rfl hl (by decide) rfl (fun ls hl => ?_)
            exact J80 v4 x10 v4 S H locs ls hf  hP hD hS (lv_sub hl [3, 4, 0, 1, 5] rfl)
          · have hf := ha_if hf c11
            refine lv_goto (tgt := 80) hx hb dX12_look_71 (by decide) ?_
            exact J80 v2 v3 v4 S H locs ls hf  hP hD hS (lv_sub hl [1, 2, 3, 4, 5] rfl)
    refine key12 _ (fun v2 S H locs ls hf  hP hD hS hl => ?_) ha_fu 0 (-1) 0 z2.2 H locs ls (ha_as hf)  hP hD hS (lv_sub hl [3, 4, 2, 1, 0] rfl)
    have hf : (f_X12_look_J86 p0 p1 v2 S).bind some = some out := hf
    exact J86 v2 S H locs ls hf  hP hD hS (lv_sub hl [0, 1, 2] rfl)
  · have hf := ha_if hf (fun q => q c3)
    refine lv_bipush (v := (-2)) hx hb dX12_look_13 (by decide) ?_
    have he := Option.some.inj hf
    exact ha_reti hx hb hr hlocks hP hD hS dX12_look_15 (ha_e1 he) (ha_e2 he)

set_option maxHeartbeats 4000000 in
set_option maxRecDepth 100000 in
theorem c_X12_comes {l : Launch} {D : va_G} {cs : Nat → ClassId} {ad : Nat → Nat} {N : List Nat} {Z : State → Prop} (hZ : ha_Zok (ha_A ad N) Z) (hN : ∀ x, mo_kd x < 999 → x ∈ N) {p0 : Nat} {p1 : Int32} {p2 : Int32} {p3 : Int32} {S : ha_St} {out : Int32 × ha_St} (h0 : mo_kd p0 = 12) (hf : f_X12_comes p0 p1 p2 p3 S = some out) : ha_Ci l D cs ad mo_kd mo_ln N Z yX12_comes wsX12_comes ({ frames := 0, cells := 0, slots := 0, locals := 0 } : Room) [.ref (ad p0), .int p1, .int p2, .int p3] S out.1 out.2 := by
  refine Met.ofW (cc := cX12_comes) (maxL := 6) (ret := (some .boolean)) (by decide +kernel) rfl ?_
  intro p e s m args below meth c s₁ B hml hv
  obtain ⟨rfl, hP, hD, hK, hz⟩ := hv
  have hx := B.exec
  have hb := B.bytes
  have hr := B.returns
  have hts := atoms_spec (ws := wsX12_comes) B.pre
  have hown : s.vm.findClass RX12 = some m.cls := findClass_of_methodNamed B.named
  have hlocks := B.notSynchronized
  have hS : va_S (ha_A ad N) s.heap s.heap [] := va_S.rf
  have hi12 : ∀ w ∈ wsX120, w ∈ wsX12_comes := fun w h => List.mem_cons_of_mem _ (List.mem_append_right _ h)
  have q135 : ha_Fk s ([.ref (ad p0), .int p1, .int p2, .int p3] : List Value).toArray RX12 135 12 81 1 := ⟨RX12, TX12, 83, wsX12_comes, rfl, by decide, by decide, rfl, rfl, hts, hi12, hts (.fieldLink RX12 135 "HillArmsModel" "sees" "[I") (by decide +kernel)⟩
  have hl := lv_entry ([.ref (ad p0), .int p1, .int p2, .int p3]) (n := 6) (Nat.le_of_ble_eq_true rfl)
  rw [lg_entry_eq]
  generalize (lg_sl ([.ref (ad p0), .int p1, .int p2, .int p3]) ++ List.replicate (6 - (lg_sl ([.ref (ad p0), .int p1, .int p2, .int p3])).length) Slot.unset).toArray = ls at hl ⊢
  have hl : lv_has ls 6 [(0, .ref (ad p0)), (1, .int p1), (2, .int p2), (3, .int p3)] := hl
  refine (fun (K0 : ∀ (H : Heap) (locs : List Loc), va_P D vwCl (ha_wl cs ad mo_kd mo_ln N S) H → va_S (ha_A ad N) s.heap H locs → W p l e (headSpec wsX12_comes ({ frames := 0, cells := 0, slots := 0, locals := 0 } : Room)).room s m ([.ref (ad p0), .int p1, .int p2, .int p3] : List Value).toArray below meth c H locs 0 0 (MQ below (va_Qi (fun (r : Int32) (_ : Unit) => r = out.1) (fun _ => ha_H D cs ad mo_kd mo_ln N out.2) (ha_A ad N)) ([.ref (ad p0), .int p1, .int p2, .int p3] : List Value).toArray s 0 0 (ha_A ad N)) (F0 m 0 ls [])) => K0 _ _ hP hS) ?_
  intro H locs hP hS
  have hf := ha_rt hf
  have J65 : ∀ (k0 : Int32) (S : ha_St) (H : Heap) (locs : List Loc) (ls : Array Slot), (f_X12_comes_J65 p0 p1 p2 p3 k0 S).bind some = some out → va_P D vwCl (ha_wl cs ad mo_kd mo_ln N S) H → va_D (ha_A ad N) (ha_wl cs ad mo_kd mo_ln N S) → va_S (ha_A ad N) s.heap H locs → lv_has ls 6 [(0, .ref (ad p0)), (1, .int p1), (2, .int p2), (3, .int p3)] → W p l e (headSpec wsX12_comes ({ frames := 0, cells := 0, slots := 0, locals := 0 } : Room)).room s m ([.ref (ad p0), .int p1, .int p2, .int p3] : List Value).toArray below meth c H locs 0 0 (MQ below (va_Qi (fun (r : Int32) (_ : Unit) => r = out.1) (fun _ => ha_H D cs ad mo_kd mo_ln N out.2) (ha_A ad N)) ([.ref (ad p0), .int p1, .int p2, .int p3] : List Value).toArray s 0 0 (ha_A ad N)) (F0 m 65 ls [.int k0]) := by
    intro k0 S H locs ls hf  hP hD hS hl
    unfold f_X12_comes_J65 at hf
    obtain ⟨g1, hf⟩ := ha_gds hf
    have he := Option.some.inj hf
    exact ha_retz hx hb hr hlocks hP hD hS dX12_comes_65 g1 (ha_e1 he) (ha_e2 he)
  have J48 : ∀ (v4 : Int32) (S : ha_St) (H : Heap) (locs : List Loc) (ls : Array Slot), (f_X12_comes_J48 p0 p1 p2 p3 v4 S).bind some = some out → va_P D vwCl (ha_wl cs ad mo_kd mo_ln N S) H → va_D (ha_A ad N) (ha_wl cs ad mo_kd mo_ln N S) → va_S (ha_A ad N) s.heap H locs → lv_has ls 6 [(0, .ref (ad p0)), (1, .int p1), (2, .int p2), (3, .int p3), (4, .int v4)] → W p l e (headSpec wsX12_comes ({ frames := 0, cells := 0, slots := 0, locals := 0 } : Room)).room s m ([.ref (ad p0), .int p1, .int p2, .int p3] : List Value).toArray below meth c H locs 0 0 (MQ below (va_Qi (fun (r : Int32) (_ : Unit) => r = out.1) (fun _ => ha_H D cs ad mo_kd mo_ln N out.2) (ha_A ad N)) ([.ref (ad p0), .int p1, .int p2, .int p3] : List Value).toArray s 0 0 (ha_A ad N)) (F0 m 48 ls []) := by
    intro v4 S H locs ls hf  hP hD hS hl
    unfold f_X12_comes_J48 at hf
    refine lv_iload hx hb dX12_comes_48 (lv_at hl 4 rfl) ?_
    refine lv_iload_n hx hb dX12_comes_50 rfl (lv_at hl 1 rfl) ?_
    refine lv_iconst (v := 1) hx hb dX12_comes_51 (by decide) ?_
    refine lv_isub hx hb dX12_comes_52 ?_
    refine lv_ishr hx hb dX12_comes_53 ?_
    refine lv_iconst (v := 1) hx hb dX12_comes_54 (by decide) ?_
    refine lv_iand hx hb dX12_comes_55 ?_
    refine lv_iconst (v := 1) hx hb dX12_comes_56 (by decide) ?_
    refine lv_icmp_ne (tgt := 64) hx hb dX12_comes_57 (by decide) (fun c2 => ?_) (fun c2 => ?_)
    · have hf := ha_it hf c2
      refine lv_iconst (v := 0) hx hb dX12_comes_64 (by decide) ?_
      exact J65 0 S H locs ls hf  hP hD hS (lv_sub hl [0, 1, 2, 3] rfl)
    · have hf := ha_if hf (fun q => q c2)
      refine lv_iconst (v := 1) hx hb dX12_comes_60 (by decide) ?_
      refine lv_goto (tgt := 65) hx hb dX12_comes_61 (by decide) ?_
      exact J65 1 S H locs ls hf  hP hD hS (lv_sub hl [0, 1, 2, 3] rfl)
  unfold f_X12_comes at hf
  refine lv_iconst (v := 1) hx hb dX12_comes_0 (by decide) ?_
  refine lv_istore (lv' := [(4, .int 1), (0, .ref (ad p0)), (1, .int p1), (2, .int p2), (3, .int p3)]) hx hb dX12_comes_1 hl (by decide) rfl (fun ls hl => ?_)
  refine lv_iconst (v := 0) hx hb dX12_comes_3 (by decide) ?_
  refine lv_istore (lv' := [(5, .int 0), (4, .int 1), (0, .ref (ad p0)), (1, .int p1), (2, .int p2), (3, .int p3)]) hx hb dX12_comes_4 hl (by decide) rfl (fun ls hl => ?_)
  have key9 : ∀ (K : (Int32 × ha_St) → Option (Int32 × ha_St)), (∀ (v4 : Int32) (S : ha_St) (H : Heap) (locs : List Loc) (ls : Array Slot), K (v4, S) = some out → va_P D vwCl (ha_wl cs ad mo_kd mo_ln N S) H → va_D (ha_A ad N) (ha_wl cs ad mo_kd mo_ln N S) → va_S (ha_A ad N) s.heap H locs → lv_has ls 6 [(0, .ref (ad p0)), (1, .int p1), (2, .int p2), (3, .int p3), (4, .int v4)] → W p l e (headSpec wsX12_comes ({ frames := 0, cells := 0, slots := 0, locals := 0 } : Room)).room s m ([.ref (ad p0), .int p1, .int p2, .int p3] : List Value).toArray below meth c H locs 0 0 (MQ below (va_Qi (fun (r : Int32) (_ : Unit) => r = out.1) (fun _ => ha_H D cs ad mo_kd mo_ln N out.2) (ha_A ad N)) ([.ref (ad p0), .int p1, .int p2, .int p3] : List Value).toArray s 0 0 (ha_A ad N)) (F0 m 48 ls [])) → ∀ (n : Nat) (v4 : Int32) (v5 : Int32) (S : ha_St) (H : Heap) (locs : List Loc) (ls : Array Slot), (f_X12_comes_L6i p0 p1 p2 p3 n (v4, v5, S)).bind K = some out → va_P D vwCl (ha_wl cs ad mo_kd mo_ln N S) H → va_D (ha_A ad N) (ha_wl cs ad mo_kd mo_ln N S) → va_S (ha_A ad N) s.heap H locs → lv_has ls 6 [(0, .ref (ad p0)), (1, .int p1), (2, .int p2), (3, .int p3), (4, .int v4), (5, .int v5)] → W p l e (headSpec wsX12_comes ({ frames := 0, cells := 0, slots := 0, locals := 0 } : Room)).room s m ([.ref (ad p0), .int p1, .int p2, .int p3] : List Value).toArray below meth c H locs 0 0 (MQ below (va_Qi (fun (r : Int32) (_ : Unit) => r = out.1) (fun _ => ha_H D cs ad mo_kd mo_ln N out.2) (ha_A ad N)) ([.ref (ad p0), .int p1, .int p2, .int p3] : List Value).toArray s 0 0 (ha_A ad N)) (F0 m 6 ls []) := by
    intro K hk n
    induction n with
    | zero =>
      intro v4 v5 S H locs ls hf
      exact absurd (show (none : Option (Int32 × ha_St)) = some out from hf) (fun h => by cases h)
    | succ n ih =>
      intro v4 v5 S H locs ls hf  hP hD hS hl
      have J42 : ∀ (v4 : Int32) (v5 : Int32) (S : ha_St) (H : Heap) (locs : List Loc) (ls : Array Slot), (f_X12_comes_L6_J42 p0 p1 p2 p3 (f_X12_comes_L6i p0 p1 p2 p3 n) v4 v5 S).bind K = some out → va_P D vwCl (ha_wl cs ad mo_kd mo_ln N S) H → va_D (ha_A ad N) (ha_wl cs ad mo_kd mo_ln N S) → va_S (ha_A ad N) s.heap H locs → lv_has ls 6 [(0, .ref (ad p0)), (1, .int p1), (2, .int p2), (3, .int p3), (4, .int v4), (5, .int v5)] → W p l e (headSpec wsX12_comes ({ frames := 0, cells := 0, slots := 0, locals := 0 } : Room)).room s m ([.ref (ad p0), .int p1, .int p2, .int p3] : List Value).toArray below meth c H locs 0 0 (MQ below (va_Qi (fun (r : Int32) (_ : Unit) => r = out.1) (fun _ => ha_H D cs ad mo_kd mo_ln N out.2) (ha_A ad N)) ([.ref (ad p0), .int p1, .int p2, .int p3] : List Value).toArray s 0 0 (ha_A ad N)) (F0 m 42 ls []) := by
        intro v4 v5 S H locs ls hf  hP hD hS hl
        unfold f_X12_comes_L6_J42 at hf
        obtain ⟨x3, ex3⟩ : ∃ y : Int32, y = (v5 : Int32) + 1 := ⟨_, rfl⟩
        have hf := ha_nms hf ex3
        refine lv_iinc (v := x3) (lv' := [(5, .int x3), (0, .ref (ad p0)), (1, .int p1), (2, .int p2), (3, .int p3), (4, .int v4)]) hx hb dX12_comes_42 hl (k := 5) rfl (by rw [ex3]; rfl) (by decide) rfl (fun ls hl => ?_)
        refine lv_goto (tgt := 6) hx hb dX12_comes_45 (by decide) ?_
        exact ih v4 x3 S H locs ls hf  hP hD hS (lv_sub hl [1, 2, 3, 4, 5, 0] rfl)
      have hf : (f_X12_comes_L6 p0 p1 p2 p3 (f_X12_comes_L6i p0 p1 p2 p3 n) v4 v5 S).bind K = some out := hf
      unfold f_X12_comes_L6 at hf
      refine lv_iload hx hb dX12_comes_6 (lv_at hl 5 rfl) ?_
      refine lv_iload_n hx hb dX12_comes_8 rfl (lv_at hl 1 rfl) ?_
      refine lv_icmp_ge (tgt := 48) hx hb dX12_comes_9 (by decide) (fun c4 => ?_) (fun c4 => ?_)
      · have hf := ha_it hf c4
        exact hk v4 S H locs ls hf  hP hD hS (lv_sub hl [0, 1, 2, 3, 4] rfl)
      · have hf := ha_if hf c4
        refine lv_iload hx hb dX12_comes_12 (lv_at hl 4 rfl) ?_
        refine lv_iload hx hb dX12_comes_14 (lv_at hl 5 rfl) ?_
        refine lv_ishr hx hb dX12_comes_16 ?_
        refine lv_iconst (v := 1) hx hb dX12_comes_17 (by decide) ?_
        refine lv_iand hx hb dX12_comes_18 ?_
        refine lv_iconst (v := 1) hx hb dX12_comes_19 (by decide) ?_
        refine lv_icmp_ne (tgt := 42) hx hb dX12_comes_20 (by decide) (fun c5 => ?_) (fun c5 => ?_)
        · have hf := ha_it hf c5
          exact J42 v4 v5 S H locs ls hf  hP hD hS (lv_sub hl [0, 1, 2, 3, 4, 5] rfl)
        · have hf := ha_if hf (fun q => q c5)
          refine lv_iload hx hb dX12_comes_23 (lv_at hl 4 rfl) ?_
          refine lv_aload_n hx hb dX12_comes_25 rfl (lv_at hl 0 rfl) ?_
          obtain ⟨r6, wr6, hf⟩ := ha_bds hf
          obtain ⟨wr6, hr6⟩ := ha_rf_some wr6
          refine ha_getr hx hb hown hK hP q135 hN h0 wr6 dX12_comes_26 ?_
          refine lv_bipush (v := 14) hx hb dX12_comes_29 (by decide) ?_
          refine lv_iload_n hx hb dX12_comes_31 rfl (lv_at hl 2 rfl) ?_
          refine lv_imul hx hb dX12_comes_32 ?_
          refine lv_iload hx hb dX12_comes_33 (lv_at hl 5 rfl) ?_
          refine lv_iadd hx hb dX12_comes_35 ?_
          obtain ⟨g7, hf⟩ := ha_gds hf
          refine ha_iald hx hb hK hP hN hr6 g7 dX12_comes_36 ?_
          refine lv_iload_n hx hb dX12_comes_37 rfl (lv_at hl 3 rfl) ?_
          refine lv_iand hx hb dX12_comes_38 ?_
          refine lv_ior hx hb dX12_comes_39 ?_
          refine lv_topi (fun x8 ex8 => ?_)
          have hf := ha_nms hf ex8
          refine lv_istore (lv' := [(4, .int x8), (0, .ref (ad p0)), (1, .int p1), (2, .int p2), (3, .int p3), (5, .int v5)]) hx hb dX12_comes_40 hl (by decide) rfl (fun ls hl => ?_)
          exact J42 x8 v5 S H locs ls hf  hP hD hS (lv_sub hl [1, 2, 3, 4, 0, 5] rfl)
  refine key9 _ (fun v4 S H locs ls hf  hP hD hS hl => ?_) ha_fu 1 0 S H locs ls (ha_as hf)  hP hD hS (lv_sub hl [2, 3, 4, 5, 1, 0] rfl)
  have hf : (f_X12_comes_J48 p0 p1 p2 p3 v4 S).bind some = some out := hf
  exact J48 v4 S H locs ls hf  hP hD hS (lv_sub hl [0, 1, 2, 3, 4] rfl)

set_option maxHeartbeats 4000000 in
set_option maxRecDepth 100000 in
theorem c_X12_hills {l : Launch} {D : va_G} {cs : Nat → ClassId} {ad : Nat → Nat} {N : List Nat} {Z : State → Prop} (hZ : ha_Zok (ha_A ad N) Z) (hN : ∀ x, mo_kd x < 999 → x ∈ N) {p0 : Nat} {p1 : Int32} {S : ha_St} {out : Int32 × ha_St} (h0 : mo_kd p0 = 12) (hf : f_X12_hills p0 p1 S = some out) : ha_Ci l D cs ad mo_kd mo_ln N Z yX12_hills wsX12_hills ({ frames := 1, cells := 0, slots := 0, locals := 25 } : Room) [.ref (ad p0), .int p1] S out.1 out.2 := by
  refine Met.ofW (cc := cX12_hills) (maxL := 11) (ret := (some .int)) (by decide +kernel) rfl ?_
  intro p e s m args below meth c s₁ B hml hv
  obtain ⟨rfl, hP, hD, hK, hz⟩ := hv
  have hx := B.exec
  have hb := B.bytes
  have hr := B.returns
  have hts := atoms_spec (ws := wsX12_hills) B.pre
  have hown : s.vm.findClass RX12 = some m.cls := findClass_of_methodNamed B.named
  have hlocks := B.notSynchronized
  have hS : va_S (ha_A ad N) s.heap s.heap [] := va_S.rf
  have hi12 : ∀ w ∈ wsX120, w ∈ wsX12_hills := fun w h => List.mem_cons_of_mem _ (List.mem_append_right _ h)
  have q135 : ha_Fk s ([.ref (ad p0), .int p1] : List Value).toArray RX12 135 12 81 1 := ⟨RX12, TX12, 83, wsX12_hills, rfl, by decide, by decide, rfl, rfl, hts, hi12, hts (.fieldLink RX12 135 "HillArmsModel" "sees" "[I") (by decide +kernel)⟩
  have q7 : ha_Fk s ([.ref (ad p0), .int p1] : List Value).toArray RX12 7 12 1 1 := ⟨RX12, TX12, 83, wsX12_hills, rfl, by decide, by decide, rfl, rfl, hts, hi12, hts (.fieldLink RX12 7 "HillArmsModel" "tape" "[I") (by decide +kernel)⟩
  have r392 : ha_Fp s ([.ref (ad p0), .int p1] : List Value).toArray RX12 392 12 82 0 .int := ⟨RX12, TX12, 83, wsX12_hills, tyX12, rfl, by decide, by decide, rfl, rfl, hts, hi12, hts (.fieldLink RX12 392 "HillArmsModel" "hillSet" "I") (by decide +kernel), tyX12_ok, nmX12, rfl, by decide +kernel⟩
  have r138 : ha_Fp s ([.ref (ad p0), .int p1] : List Value).toArray RX12 138 12 0 0 .int := ⟨RX12, TX12, 83, wsX12_hills, tyX12, rfl, by decide, by decide, rfl, rfl, hts, hi12, hts (.fieldLink RX12 138 "HillArmsModel" "thrown" "I") (by decide +kernel), tyX12_ok, nmX12, rfl, by decide +kernel⟩
  have cw0 := cwV (R := (headSpec wsX12_hills ({ frames := 1, cells := 0, slots := 0, locals := 25 } : Room)).room) 3 hts gX12_hills_X12_comes (rm := ({ frames := 0, cells := 0, slots := 0, locals := 0 } : Room)) (mc := 0) (ms := 0) rfl rfl rfl (by decide +kernel) ⟨Nat.le_of_ble_eq_true rfl, Nat.le_of_ble_eq_true rfl⟩
  have cw1 := cwV (R := (headSpec wsX12_hills ({ frames := 1, cells := 0, slots := 0, locals := 25 } : Room)).room) 0 hts gX12_hills_X12_take (rm := ({ frames := 0, cells := 0, slots := 0, locals := 0 } : Room)) (mc := 0) (ms := 0) rfl rfl rfl (by decide +kernel) ⟨Nat.le_of_ble_eq_true rfl, Nat.le_of_ble_eq_true rfl⟩
  have cw2 := va_cwS (R := (headSpec wsX12_hills ({ frames := 1, cells := 0, slots := 0, locals := 25 } : Room)).room) 3 hts gX12_hills_X12_isIn (rm := ({ frames := 0, cells := 0, slots := 0, locals := 0 } : Room)) (mc := 0) (ms := 0) rfl rfl rfl (by decide +kernel) ⟨Nat.le_of_ble_eq_true rfl, Nat.le_of_ble_eq_true rfl⟩
  have hl := lv_entry ([.ref (ad p0), .int p1]) (n := 11) (Nat.le_of_ble_eq_true rfl)
  rw [lg_entry_eq]
  generalize (lg_sl ([.ref (ad p0), .int p1]) ++ List.replicate (11 - (lg_sl ([.ref (ad p0), .int p1])).length) Slot.unset).toArray = ls at hl ⊢
  have hl : lv_has ls 11 [(0, .ref (ad p0)), (1, .int p1)] := hl
  refine (fun (K0 : ∀ (H : Heap) (locs : List Loc), va_P D vwCl (ha_wl cs ad mo_kd mo_ln N S) H → va_S (ha_A ad N) s.heap H locs → W p l e (headSpec wsX12_hills ({ frames := 1, cells := 0, slots := 0, locals := 25 } : Room)).room s m ([.ref (ad p0), .int p1] : List Value).toArray below meth c H locs 0 0 (MQ below (va_Qi (fun (r : Int32) (_ : Unit) => r = out.1) (fun _ => ha_H D cs ad mo_kd mo_ln N out.2) (ha_A ad N)) ([.ref (ad p0), .int p1] : List Value).toArray s 0 0 (ha_A ad N)) (F0 m 0 ls [])) => K0 _ _ hP hS) ?_
  intro H locs hP hS
  have hf := ha_rt hf
  have J283 : ∀ (v4 : Int32) (S : ha_St) (H : Heap) (locs : List Loc) (ls : Array Slot), (f_X12_hills_J283 p0 p1 v4 S).bind some = some out → va_P D vwCl (ha_wl cs ad mo_kd mo_ln N S) H → va_D (ha_A ad N) (ha_wl cs ad mo_kd mo_ln N S) → va_S (ha_A ad N) s.heap H locs → lv_has ls 11 [(0, .ref (ad p0)), (1, .int p1), (4, .int v4)] → W p l e (headSpec wsX12_hills ({ frames := 1, cells := 0, slots := 0, locals := 25 } : Room)).room s m ([.ref (ad p0), .int p1] : List Value).toArray below meth c H locs 0 0 (MQ below (va_Qi (fun (r : Int32) (_ : Unit) => r = out.1) (fun _ => ha_H D cs ad mo_kd mo_ln N out.2) (ha_A ad N)) ([.ref (ad p0), .int p1] : List Value).toArray s 0 0 (ha_A ad N)) (F0 m 283 ls []) := by
    intro v4 S H locs ls hf  hP hD hS hl
    unfold f_X12_hills_J283 at hf
    refine lv_iload hx hb dX12_hills_283 (lv_at hl 2 rfl) ?_
    have he := Option.some.inj hf
    exact ha_reti hx hb hr hlocks hP hD hS dX12_hills_285 (ha_e1 he) (ha_e2 he)
  have J271 : ∀ (v4 : Int32) (v5 : Int32) (S : ha_St) (H : Heap) (locs : List Loc) (ls : Array Slot), (f_X12_hills_J271 p0 p1 v4 v5 S).bind some = some out → va_P D vwCl (ha_wl cs ad mo_kd mo_ln N S) H → va_D (ha_A ad N) (ha_wl cs ad mo_kd mo_ln N S) → va_S (ha_A ad N) s.heap H locs → lv_has ls 11 [(0, .ref (ad p0)), (1, .int p1), (4, .int v4), (5, .int v5)] → W p l e (headSpec wsX12_hills ({ frames := 1, cells := 0, slots := 0, locals := 25 } : Room)).room s m ([.ref (ad p0), .int p1] : List Value).toArray below meth c H locs 0 0 (MQ below (va_Qi (fun (r : Int32) (_ : Unit) => r = out.1) (fun _ => ha_H D cs ad mo_kd mo_ln N out.2) (ha_A ad N)) ([.ref (ad p0), .int p1] : List Value).toArray s 0 0 (ha_A ad N)) (F0 m 271 ls []) := by
    intro v4 v5 S H locs ls hf  hP hD hS hl
    unfold f_X12_hills_J271 at hf
    refine lv_iload hx hb dX12_hills_271 (lv_at hl 2 rfl) ?_
    refine lv_iconst (v := (-1)) hx hb dX12_hills_273 (by decide) ?_
    refine lv_icmp_eq (tgt := 283) hx hb dX12_hills_274 (by decide) (fun c1 => ?_) (fun c1 => ?_)
    · have hf := ha_it hf c1
      exact J283 v4 S H locs ls hf  hP hD hS (lv_sub hl [0, 1, 2] rfl)
    · have hf := ha_if hf c1
      refine lv_aload_n hx hb dX12_hills_277 rfl (lv_at hl 0 rfl) ?_
      refine lv_iload hx hb dX12_hills_278 (lv_at hl 3 rfl) ?_
      refine ha_puti hx hb hown hK hP hD hS r392 hN h0 dX12_hills_280 (fun S2 H locs eS2 hP hD hS => ?_)
      have hf := ha_nms hf eS2
      exact J283 v4 S2 H locs ls hf  hP hD hS (lv_sub hl [0, 1, 2] rfl)
  have J135 : ∀ (v3 : Int32) (S : ha_St) (H : Heap) (locs : List Loc) (ls : Array Slot), (f_X12_hills_J135 p0 p1 v3 S).bind some = some out → va_P D vwCl (ha_wl cs ad mo_kd mo_ln N S) H → va_D (ha_A ad N) (ha_wl cs ad mo_kd mo_ln N S) → va_S (ha_A ad N) s.heap H locs → lv_has ls 11 [(0, .ref (ad p0)), (1, .int p1), (3, .int v3)] → W p l e (headSpec wsX12_hills ({ frames := 1, cells := 0, slots := 0, locals := 25 } : Room)).room s m ([.ref (ad p0), .int p1] : List Value).toArray below meth c H locs 0 0 (MQ below (va_Qi (fun (r : Int32) (_ : Unit) => r = out.1) (fun _ => ha_H D cs ad mo_kd mo_ln N out.2) (ha_A ad N)) ([.ref (ad p0), .int p1] : List Value).toArray s 0 0 (ha_A ad N)) (F0 m 135 ls []) := by
    intro v3 S H locs ls hf  hP hD hS hl
    unfold f_X12_hills_J135 at hf
    refine lv_iconst (v := (-1)) hx hb dX12_hills_135 (by decide) ?_
    refine lv_istore (lv' := [(4, .int (-1)), (0, .ref (ad p0)), (1, .int p1), (3, .int v3)]) hx hb dX12_hills_136 hl (by decide) rfl (fun ls hl => ?_)
    refine lv_iconst (v := 0) hx hb dX12_hills_138 (by decide) ?_
    refine lv_istore (lv' := [(5, .int 0), (4, .int (-1)), (0, .ref (ad p0)), (1, .int p1), (3, .int v3)]) hx hb dX12_hills_139 hl (by decide) rfl (fun ls hl => ?_)
    refine lv_iconst (v := 0) hx hb dX12_hills_141 (by decide) ?_
    refine lv_istore (lv' := [(6, .int 0), (5, .int 0), (4, .int (-1)), (0, .ref (ad p0)), (1, .int p1), (3, .int v3)]) hx hb dX12_hills_142 hl (by decide) rfl (fun ls hl => ?_)
    have key20 : ∀ (K : (Int32 × Int32 × ha_St) → Option (Int32 × ha_St)), (∀ (v4 : Int32) (v5 : Int32) (S : ha_St) (H : Heap) (locs : List Loc) (ls : Array Slot), K (v4, v5, S) = some out → va_P D vwCl (ha_wl cs ad mo_kd mo_ln N S) H → va_D (ha_A ad N) (ha_wl cs ad mo_kd mo_ln N S) → va_S (ha_A ad N) s.heap H locs → lv_has ls 11 [(0, .ref (ad p0)), (1, .int p1), (4, .int v4), (5, .int v5)] → W p l e (headSpec wsX12_hills ({ frames := 1, cells := 0, slots := 0, locals := 25 } : Room)).room s m ([.ref (ad p0), .int p1] : List Value).toArray below meth c H locs 0 0 (MQ below (va_Qi (fun (r : Int32) (_ : Unit) => r = out.1) (fun _ => ha_H D cs ad mo_kd mo_ln N out.2) (ha_A ad N)) ([.ref (ad p0), .int p1] : List Value).toArray s 0 0 (ha_A ad N)) (F0 m 271 ls [])) → ∀ (n : Nat) (v3 : Int32) (v4 : Int32) (v5 : Int32) (v6 : Int32) (S : ha_St) (H : Heap) (locs : List Loc) (ls : Array Slot), (f_X12_hills_L144i p0 p1 n (v3, v4, v5, v6, S)).bind K = some out → va_P D vwCl (ha_wl cs ad mo_kd mo_ln N S) H → va_D (ha_A ad N) (ha_wl cs ad mo_kd mo_ln N S) → va_S (ha_A ad N) s.heap H locs → lv_has ls 11 [(0, .ref (ad p0)), (1, .int p1), (3, .int v3), (4, .int v4), (5, .int v5), (6, .int v6)] → W p l e (headSpec wsX12_hills ({ frames := 1, cells := 0, slots := 0, locals := 25 } : Room)).room s m ([.ref (ad p0), .int p1] : List Value).toArray below meth c H locs 0 0 (MQ below (va_Qi (fun (r : Int32) (_ : Unit) => r = out.1) (fun _ => ha_H D cs ad mo_kd mo_ln N out.2) (ha_A ad N)) ([.ref (ad p0), .int p1] : List Value).toArray s 0 0 (ha_A ad N)) (F0 m 144 ls []) := by
      intro K hk n
      induction n with
      | zero =>
        intro v3 v4 v5 v6 S H locs ls hf
        exact absurd (show (none : Option (Int32 × ha_St)) = some out from hf) (fun h => by cases h)
      | succ n ih =>
        intro v3 v4 v5 v6 S H locs ls hf  hP hD hS hl
        have J265 : ∀ (v3 : Int32) (v4 : Int32) (v5 : Int32) (v6 : Int32) (S : ha_St) (H : Heap) (locs : List Loc) (ls : Array Slot), (f_X12_hills_L144_J265 p0 p1 (f_X12_hills_L144i p0 p1 n) v3 v4 v5 v6 S).bind K = some out → va_P D vwCl (ha_wl cs ad mo_kd mo_ln N S) H → va_D (ha_A ad N) (ha_wl cs ad mo_kd mo_ln N S) → va_S (ha_A ad N) s.heap H locs → lv_has ls 11 [(0, .ref (ad p0)), (1, .int p1), (3, .int v3), (4, .int v4), (5, .int v5), (6, .int v6)] → W p l e (headSpec wsX12_hills ({ frames := 1, cells := 0, slots := 0, locals := 25 } : Room)).room s m ([.ref (ad p0), .int p1] : List Value).toArray below meth c H locs 0 0 (MQ below (va_Qi (fun (r : Int32) (_ : Unit) => r = out.1) (fun _ => ha_H D cs ad mo_kd mo_ln N out.2) (ha_A ad N)) ([.ref (ad p0), .int p1] : List Value).toArray s 0 0 (ha_A ad N)) (F0 m 265 ls []) := by
          intro v3 v4 v5 v6 S H locs ls hf  hP hD hS hl
          unfold f_X12_hills_L144_J265 at hf
          obtain ⟨x3, ex3⟩ : ∃ y : Int32, y = (v6 : Int32) + 1 := ⟨_, rfl⟩
          have hf := ha_nms hf ex3
          refine lv_iinc (v := x3) (lv' := [(6, .int x3), (0, .ref (ad p0)), (1, .int p1), (3, .int v3), (4, .int v4), (5, .int v5)]) hx hb dX12_hills_265 hl (k := 5) rfl (by rw [ex3]; rfl) (by decide) rfl (fun ls hl => ?_)
          refine lv_goto (tgt := 144) hx hb dX12_hills_268 (by decide) ?_
          exact ih v3 v4 v5 x3 S H locs ls hf  hP hD hS (lv_sub hl [1, 2, 3, 4, 5, 0] rfl)
        have J249 : ∀ (v3 : Int32) (v4 : Int32) (v5 : Int32) (v6 : Int32) (v7 : Int32) (v8 : Int32) (v9 : Int32) (S : ha_St) (H : Heap) (locs : List Loc) (ls : Array Slot), (f_X12_hills_L144_J249 p0 p1 (f_X12_hills_L144i p0 p1 n) v3 v4 v5 v6 v7 v8 v9 S).bind K = some out → va_P D vwCl (ha_wl cs ad mo_kd mo_ln N S) H → va_D (ha_A ad N) (ha_wl cs ad mo_kd mo_ln N S) → va_S (ha_A ad N) s.heap H locs → lv_has ls 11 [(0, .ref (ad p0)), (1, .int p1), (3, .int v3), (4, .int v4), (5, .int v5), (6, .int v6), (7, .int v7), (8, .int v8), (9, .int v9)] → W p l e (headSpec wsX12_hills ({ frames := 1, cells := 0, slots := 0, locals := 25 } : Room)).room s m ([.ref (ad p0), .int p1] : List Value).toArray below meth c H locs 0 0 (MQ below (va_Qi (fun (r : Int32) (_ : Unit) => r = out.1) (fun _ => ha_H D cs ad mo_kd mo_ln N out.2) (ha_A ad N)) ([.ref (ad p0), .int p1] : List Value).toArray s 0 0 (ha_A ad N)) (F0 m 249 ls []) := by
          intro v3 v4 v5 v6 v7 v8 v9 S H locs ls hf  hP hD hS hl
          unfold f_X12_hills_L144_J249 at hf
          refine lv_iload hx hb dX12_hills_249 (lv_at hl 8 rfl) ?_
          refine lv_if_ne (tgt := 257) hx hb dX12_hills_251 (by decide) (fun c4 => ?_) (fun c4 => ?_)
          · have hf := ha_it hf c4
            refine lv_iload hx hb dX12_hills_257 (lv_at hl 7 rfl) ?_
            refine lv_istore (lv' := [(4, .int v8), (0, .ref (ad p0)), (1, .int p1), (3, .int v3), (5, .int v5), (6, .int v6), (7, .int v7), (8, .int v8), (9, .int v9)]) hx hb dX12_hills_259 hl (by decide) rfl (fun ls hl => ?_)
            refine lv_iload hx hb dX12_hills_261 (lv_at hl 6 rfl) ?_
            refine lv_istore (lv' := [(5, .int v7), (4, .int v8), (0, .ref (ad p0)), (1, .int p1), (3, .int v3), (6, .int v6), (7, .int v7), (8, .int v8), (9, .int v9)]) hx hb dX12_hills_263 hl (by decide) rfl (fun ls hl => ?_)
            exact J265 v3 v8 v7 v6 S H locs ls hf  hP hD hS (lv_sub hl [2, 3, 4, 1, 0, 5] rfl)
          · have hf := ha_if hf (fun q => q c4)
            refine lv_goto (tgt := 265) hx hb dX12_hills_254 (by decide) ?_
            exact J265 v3 v4 v5 v6 S H locs ls hf  hP hD hS (lv_sub hl [0, 1, 2, 3, 4, 5] rfl)
        have J216 : ∀ (v3 : Int32) (v4 : Int32) (v5 : Int32) (v6 : Int32) (v7 : Int32) (v8 : Int32) (k0 : Int32) (S : ha_St) (H : Heap) (locs : List Loc) (ls : Array Slot), (f_X12_hills_L144_J216 p0 p1 (f_X12_hills_L144i p0 p1 n) v3 v4 v5 v6 v7 v8 k0 S).bind K = some out → va_P D vwCl (ha_wl cs ad mo_kd mo_ln N S) H → va_D (ha_A ad N) (ha_wl cs ad mo_kd mo_ln N S) → va_S (ha_A ad N) s.heap H locs → lv_has ls 11 [(0, .ref (ad p0)), (1, .int p1), (3, .int v3), (4, .int v4), (5, .int v5), (6, .int v6), (7, .int v7), (8, .int v8)] → W p l e (headSpec wsX12_hills ({ frames := 1, cells := 0, slots := 0, locals := 25 } : Room)).room s m ([.ref (ad p0), .int p1] : List Value).toArray below meth c H locs 0 0 (MQ below (va_Qi (fun (r : Int32) (_ : Unit) => r = out.1) (fun _ => ha_H D cs ad mo_kd mo_ln N out.2) (ha_A ad N)) ([.ref (ad p0), .int p1] : List Value).toArray s 0 0 (ha_A ad N)) (F0 m 216 ls [.int k0]) := by
          intro v3 v4 v5 v6 v7 v8 k0 S H locs ls hf  hP hD hS hl
          unfold f_X12_hills_L144_J216 at hf
          refine lv_istore (lv' := [(9, .int k0), (0, .ref (ad p0)), (1, .int p1), (3, .int v3), (4, .int v4), (5, .int v5), (6, .int v6), (7, .int v7), (8, .int v8)]) hx hb dX12_hills_216 hl (by decide) rfl (fun ls hl => ?_)
          refine lv_iconst (v := 0) hx hb dX12_hills_218 (by decide) ?_
          refine lv_istore (lv' := [(10, .int 0), (9, .int k0), (0, .ref (ad p0)), (1, .int p1), (3, .int v3), (4, .int v4), (5, .int v5), (6, .int v6), (7, .int v7), (8, .int v8)]) hx hb dX12_hills_219 hl (by decide) rfl (fun ls hl => ?_)
          have key9 : ∀ (K : (Int32 × Int32 × Int32 × Int32 × Int32 × Int32 × Int32 × ha_St) → Option (Int32 × ha_St)), (∀ (v3 : Int32) (v4 : Int32) (v5 : Int32) (v6 : Int32) (v7 : Int32) (v8 : Int32) (v9 : Int32) (S : ha_St) (H : Heap) (locs : List Loc) (ls : Array Slot), K (v3, v4, v5, v6, v7, v8, v9, S) = some out → va_P D vwCl (ha_wl cs ad mo_kd mo_ln N S) H → va_D (ha_A ad N) (ha_wl cs ad mo_kd mo_ln N S) → va_S (ha_A ad N) s.heap H locs → lv_has ls 11 [(0, .ref (ad p0)), (1, .int p1), (3, .int v3), (4, .int v4), (5, .int v5), (6, .int v6), (7, .int v7), (8, .int v8), (9, .int v9)] → W p l e (headSpec wsX12_hills ({ frames := 1, cells := 0, slots := 0, locals := 25 } : Room)).room s m ([.ref (ad p0), .int p1] : List Value).toArray below meth c H locs 0 0 (MQ below (va_Qi (fun (r : Int32) (_ : Unit) => r = out.1) (fun _ => ha_H D cs ad mo_kd mo_ln N out.2) (ha_A ad N)) ([.ref (ad p0), .int p1] : List Value).toArray s 0 0 (ha_A ad N)) (F0 m 249 ls [])) → ∀ (n : Nat) (v3 : Int32) (v4 : Int32) (v5 : Int32) (v6 : Int32) (v7 : Int32) (v8 : Int32) (v9 : Int32) (v10 : Int32) (S : ha_St) (H : Heap) (locs : List Loc) (ls : Array Slot), (f_X12_hills_L221i p0 p1 n (v3, v4, v5, v6, v7, v8, v9, v10, S)).bind K = some out → va_P D vwCl (ha_wl cs ad mo_kd mo_ln N S) H → va_D (ha_A ad N) (ha_wl cs ad mo_kd mo_ln N S) → va_S (ha_A ad N) s.heap H locs → lv_has ls 11 [(0, .ref (ad p0)), (1, .int p1), (3, .int v3), (4, .int v4), (5, .int v5), (6, .int v6), (7, .int v7), (8, .int v8), (9, .int v9), (10, .int v10)] → W p l e (headSpec wsX12_hills ({ frames := 1, cells := 0, slots := 0, locals := 25 } : Room)).room s m ([.ref (ad p0), .int p1] : List Value).toArray below meth c H locs 0 0 (MQ below (va_Qi (fun (r : Int32) (_ : Unit) => r = out.1) (fun _ => ha_H D cs ad mo_kd mo_ln N out.2) (ha_A ad N)) ([.ref (ad p0), .int p1] : List Value).toArray s 0 0 (ha_A ad N)) (F0 m 221 ls []) := by
            intro K hk n
            induction n with
            | zero =>
              intro v3 v4 v5 v6 v7 v8 v9 v10 S H locs ls hf
              exact absurd (show (none : Option (Int32 × ha_St)) = some out from hf) (fun h => by cases h)
            | succ n ih =>
              intro v3 v4 v5 v6 v7 v8 v9 v10 S H locs ls hf  hP hD hS hl
              have hf : (f_X12_hills_L221 p0 p1 (f_X12_hills_L221i p0 p1 n) v3 v4 v5 v6 v7 v8 v9 v10 S).bind K = some out := hf
              unfold f_X12_hills_L221 at hf
              refine lv_iload hx hb dX12_hills_221 (lv_at hl 9 rfl) ?_
              refine lv_iload_n hx hb dX12_hills_223 rfl (lv_at hl 2 rfl) ?_
              refine lv_icmp_ge (tgt := 249) hx hb dX12_hills_224 (by decide) (fun c5 => ?_) (fun c5 => ?_)
              · have hf := ha_it hf c5
                exact hk v3 v4 v5 v6 v7 v8 v9 S H locs ls hf  hP hD hS (lv_sub hl [0, 1, 2, 3, 4, 5, 6, 7, 8] rfl)
              · have hf := ha_if hf c5
                refine lv_iload hx hb dX12_hills_227 (lv_at hl 8 rfl) ?_
                refine lv_if_eq (tgt := 249) hx hb dX12_hills_229 (by decide) (fun c6 => ?_) (fun c6 => ?_)
                · have hf := ha_it hf c6
                  exact hk v3 v4 v5 v6 v7 v8 v9 S H locs ls hf  hP hD hS (lv_sub hl [0, 1, 2, 3, 4, 5, 6, 7, 8] rfl)
                · have hf := ha_if hf c6
                  refine lv_aload_n hx hb dX12_hills_232 rfl (lv_at hl 0 rfl) ?_
                  refine lv_iload_n hx hb dX12_hills_233 rfl (lv_at hl 1 rfl) ?_
                  refine lv_iload hx hb dX12_hills_234 (lv_at hl 9 rfl) ?_
                  refine lv_iload hx hb dX12_hills_236 (lv_at hl 6 rfl) ?_
                  obtain ⟨z7, wz7, hf⟩ := ha_bds hf
                  refine ha_callVi (As := [.int p1, .int v10, .int v7]) (rest := []) hZ ⟨hx, hb, hml, hown, hts⟩ hK hz hP hD hS (c_X12_comes hZ hN h0 wz7) cw0 hN h0 (by decide) rfl rfl hl.1 rfl (Nat.le_of_ble_eq_true rfl) dX12_hills_238 ⟨Nat.le_of_ble_eq_true rfl, Nat.le_of_ble_eq_true rfl⟩ (fun H locs hP hD hS => ?_)
                  refine lv_istore (lv' := [(9, .int z7.1), (0, .ref (ad p0)), (1, .int p1), (3, .int v3), (4, .int v4), (5, .int v5), (6, .int v6), (7, .int v7), (8, .int v8), (10, .int v10)]) hx hb dX12_hills_241 hl (by decide) rfl (fun ls hl => ?_)
                  obtain ⟨x8, ex8⟩ : ∃ y : Int32, y = (v10 : Int32) + 1 := ⟨_, rfl⟩
                  have hf := ha_nms hf ex8
                  refine lv_iinc (v := x8) (lv' := [(10, .int x8), (9, .int z7.1), (0, .ref (ad p0)), (1, .int p1), (3, .int v3), (4, .int v4), (5, .int v5), (6, .int v6), (7, .int v7), (8, .int v8)]) hx hb dX12_hills_243 hl (k := 9) rfl (by rw [ex8]; rfl) (by decide) rfl (fun ls hl => ?_)
                  refine lv_goto (tgt := 221) hx hb dX12_hills_246 (by decide) ?_
                  exact ih v3 v4 v5 v6 v7 v8 z7.1 x8 z7.2 H locs ls hf  hP hD hS (lv_sub hl [2, 3, 4, 5, 6, 7, 8, 9, 1, 0] rfl)
          refine key9 _ (fun v3 v4 v5 v6 v7 v8 v9 S H locs ls hf  hP hD hS hl => ?_) ha_fu v3 v4 v5 v6 v7 v8 k0 0 S H locs ls (ha_as hf)  hP hD hS (lv_sub hl [2, 3, 4, 5, 6, 7, 8, 9, 1, 0] rfl)
          have hf : (f_X12_hills_L144_J249 p0 p1 (f_X12_hills_L144i p0 p1 n) v3 v4 v5 v6 v7 v8 v9 S).bind K = some out := hf
          exact J249 v3 v4 v5 v6 v7 v8 v9 S H locs ls hf  hP hD hS (lv_sub hl [0, 1, 2, 3, 4, 5, 6, 7, 8] rfl)
        have J211 : ∀ (v3 : Int32) (v4 : Int32) (v5 : Int32) (v6 : Int32) (v7 : Int32) (v8 : Int32) (S : ha_St) (H : Heap) (locs : List Loc) (ls : Array Slot), (f_X12_hills_L144_J211 p0 p1 (f_X12_hills_L144i p0 p1 n) v3 v4 v5 v6 v7 v8 S).bind K = some out → va_P D vwCl (ha_wl cs ad mo_kd mo_ln N S) H → va_D (ha_A ad N) (ha_wl cs ad mo_kd mo_ln N S) → va_S (ha_A ad N) s.heap H locs → lv_has ls 11 [(0, .ref (ad p0)), (1, .int p1), (3, .int v3), (4, .int v4), (5, .int v5), (6, .int v6), (7, .int v7), (8, .int v8)] → W p l e (headSpec wsX12_hills ({ frames := 1, cells := 0, slots := 0, locals := 25 } : Room)).room s m ([.ref (ad p0), .int p1] : List Value).toArray below meth c H locs 0 0 (MQ below (va_Qi (fun (r : Int32) (_ : Unit) => r = out.1) (fun _ => ha_H D cs ad mo_kd mo_ln N out.2) (ha_A ad N)) ([.ref (ad p0), .int p1] : List Value).toArray s 0 0 (ha_A ad N)) (F0 m 211 ls []) := by
          intro v3 v4 v5 v6 v7 v8 S H locs ls hf  hP hD hS hl
          unfold f_X12_hills_L144_J211 at hf
          refine lv_iconst (v := 1) hx hb dX12_hills_211 (by decide) ?_
          refine lv_goto (tgt := 216) hx hb dX12_hills_212 (by decide) ?_
          exact J216 v3 v4 v5 v6 v7 v8 1 S H locs ls hf  hP hD hS (lv_sub hl [0, 1, 2, 3, 4, 5, 6, 7] rfl)
        have J198 : ∀ (v3 : Int32) (v4 : Int32) (v5 : Int32) (v6 : Int32) (v7 : Int32) (v8 : Int32) (S : ha_St) (H : Heap) (locs : List Loc) (ls : Array Slot), (f_X12_hills_L144_J198 p0 p1 (f_X12_hills_L144i p0 p1 n) v3 v4 v5 v6 v7 v8 S).bind K = some out → va_P D vwCl (ha_wl cs ad mo_kd mo_ln N S) H → va_D (ha_A ad N) (ha_wl cs ad mo_kd mo_ln N S) → va_S (ha_A ad N) s.heap H locs → lv_has ls 11 [(0, .ref (ad p0)), (1, .int p1), (3, .int v3), (4, .int v4), (5, .int v5), (6, .int v6), (7, .int v7), (8, .int v8)] → W p l e (headSpec wsX12_hills ({ frames := 1, cells := 0, slots := 0, locals := 25 } : Room)).room s m ([.ref (ad p0), .int p1] : List Value).toArray below meth c H locs 0 0 (MQ below (va_Qi (fun (r : Int32) (_ : Unit) => r = out.1) (fun _ => ha_H D cs ad mo_kd mo_ln N out.2) (ha_A ad N)) ([.ref (ad p0), .int p1] : List Value).toArray s 0 0 (ha_A ad N)) (F0 m 198 ls []) := by
          intro v3 v4 v5 v6 v7 v8 S H locs ls hf  hP hD hS hl
          unfold f_X12_hills_L144_J198 at hf
          refine lv_iload hx hb dX12_hills_198 (lv_at hl 3 rfl) ?_
          refine lv_iconst (v := (-1)) hx hb dX12_hills_200 (by decide) ?_
          refine lv_icmp_eq (tgt := 211) hx hb dX12_hills_201 (by decide) (fun c11 => ?_) (fun c11 => ?_)
          · have hf := ha_it hf c11
            exact J211 v3 v4 v5 v6 v7 v8 S H locs ls hf  hP hD hS (lv_sub hl [0, 1, 2, 3, 4, 5, 6, 7] rfl)
          · have hf := ha_if hf c11
            refine lv_iload hx hb dX12_hills_204 (lv_at hl 7 rfl) ?_
            refine lv_iload hx hb dX12_hills_206 (lv_at hl 3 rfl) ?_
            refine lv_icmp_ge (tgt := 215) hx hb dX12_hills_208 (by decide) (fun c12 => ?_) (fun c12 => ?_)
            · have hf := ha_it hf c12
              refine lv_iconst (v := 0) hx hb dX12_hills_215 (by decide) ?_
              exact J216 v3 v4 v5 v6 v7 v8 0 S H locs ls hf  hP hD hS (lv_sub hl [0, 1, 2, 3, 4, 5, 6, 7] rfl)
            · have hf := ha_if hf c12
              exact J211 v3 v4 v5 v6 v7 v8 S H locs ls hf  hP hD hS (lv_sub hl [0, 1, 2, 3, 4, 5, 6, 7] rfl)
        have hf : (f_X12_hills_L144 p0 p1 (f_X12_hills_L144i p0 p1 n) v3 v4 v5 v6 S).bind K = some out := hf
        unfold f_X12_hills_L144 at hf
        refine lv_iload hx hb dX12_hills_144 (lv_at hl 5 rfl) ?_
        refine lv_iconst (v := 1) hx hb dX12_hills_146 (by decide) ?_
        refine lv_iload_n hx hb dX12_hills_147 rfl (lv_at hl 1 rfl) ?_
        refine lv_iconst (v := 2) hx hb dX12_hills_148 (by decide) ?_
        refine lv_isub hx hb dX12_hills_149 ?_
        refine lv_ishl hx hb dX12_hills_150 ?_
        refine lv_icmp_ge (tgt := 271) hx hb dX12_hills_151 (by decide) (fun c13 => ?_) (fun c13 => ?_)
        · have hf := ha_it hf c13
          exact hk v4 v5 S H locs ls hf  hP hD hS (lv_sub hl [0, 1, 3, 4] rfl)
        · have hf := ha_if hf c13
          refine lv_iconst (v := 1) hx hb dX12_hills_154 (by decide) ?_
          refine lv_iload hx hb dX12_hills_155 (lv_at hl 5 rfl) ?_
          refine lv_iconst (v := 1) hx hb dX12_hills_157 (by decide) ?_
          refine lv_ishl hx hb dX12_hills_158 ?_
          refine lv_ior hx hb dX12_hills_159 ?_
          refine lv_iconst (v := 1) hx hb dX12_hills_160 (by decide) ?_
          refine lv_iload_n hx hb dX12_hills_161 rfl (lv_at hl 1 rfl) ?_
          refine lv_iconst (v := 1) hx hb dX12_hills_162 (by decide) ?_
          refine lv_isub hx hb dX12_hills_163 ?_
          refine lv_ishl hx hb dX12_hills_164 ?_
          refine lv_ior hx hb dX12_hills_165 ?_
          refine lv_topi (fun x14 ex14 => ?_)
          have hf := ha_nms hf ex14
          refine lv_istore (lv' := [(7, .int x14), (0, .ref (ad p0)), (1, .int p1), (3, .int v3), (4, .int v4), (5, .int v5), (6, .int v6)]) hx hb dX12_hills_166 hl (by decide) rfl (fun ls hl => ?_)
          refine lv_iconst (v := 0) hx hb dX12_hills_168 (by decide) ?_
          refine lv_istore (lv' := [(8, .int 0), (7, .int x14), (0, .ref (ad p0)), (1, .int p1), (3, .int v3), (4, .int v4), (5, .int v5), (6, .int v6)]) hx hb dX12_hills_169 hl (by decide) rfl (fun ls hl => ?_)
          refine lv_iconst (v := 0) hx hb dX12_hills_171 (by decide) ?_
          refine lv_istore (lv' := [(9, .int 0), (8, .int 0), (7, .int x14), (0, .ref (ad p0)), (1, .int p1), (3, .int v3), (4, .int v4), (5, .int v5), (6, .int v6)]) hx hb dX12_hills_172 hl (by decide) rfl (fun ls hl => ?_)
          have key18 : ∀ (K : (Int32 × Int32 × Int32 × Int32 × Int32 × Int32 × ha_St) → Option (Int32 × ha_St)), (∀ (v3 : Int32) (v4 : Int32) (v5 : Int32) (v6 : Int32) (v7 : Int32) (v8 : Int32) (S : ha_St) (H : Heap) (locs : List Loc) (ls : Array Slot), K (v3, v4, v5, v6, v7, v8, S) = some out → va_P D vwCl (ha_wl cs ad mo_kd mo_ln N S) H → va_D (ha_A ad N) (ha_wl cs ad mo_kd mo_ln N S) → va_S (ha_A ad N) s.heap H locs → lv_has ls 11 [(0, .ref (ad p0)), (1, .int p1), (3, .int v3), (4, .int v4), (5, .int v5), (6, .int v6), (7, .int v7), (8, .int v8)] → W p l e (headSpec wsX12_hills ({ frames := 1, cells := 0, slots := 0, locals := 25 } : Room)).room s m ([.ref (ad p0), .int p1] : List Value).toArray below meth c H locs 0 0 (MQ below (va_Qi (fun (r : Int32) (_ : Unit) => r = out.1) (fun _ => ha_H D cs ad mo_kd mo_ln N out.2) (ha_A ad N)) ([.ref (ad p0), .int p1] : List Value).toArray s 0 0 (ha_A ad N)) (F0 m 198 ls [])) → ∀ (n : Nat) (v3 : Int32) (v4 : Int32) (v5 : Int32) (v6 : Int32) (v7 : Int32) (v8 : Int32) (v9 : Int32) (S : ha_St) (H : Heap) (locs : List Loc) (ls : Array Slot), (f_X12_hills_L174i p0 p1 n (v3, v4, v5, v6, v7, v8, v9, S)).bind K = some out → va_P D vwCl (ha_wl cs ad mo_kd mo_ln N S) H → va_D (ha_A ad N) (ha_wl cs ad mo_kd mo_ln N S) → va_S (ha_A ad N) s.heap H locs → lv_has ls 11 [(0, .ref (ad p0)), (1, .int p1), (3, .int v3), (4, .int v4), (5, .int v5), (6, .int v6), (7, .int v7), (8, .int v8), (9, .int v9)] → W p l e (headSpec wsX12_hills ({ frames := 1, cells := 0, slots := 0, locals := 25 } : Room)).room s m ([.ref (ad p0), .int p1] : List Value).toArray below meth c H locs 0 0 (MQ below (va_Qi (fun (r : Int32) (_ : Unit) => r = out.1) (fun _ => ha_H D cs ad mo_kd mo_ln N out.2) (ha_A ad N)) ([.ref (ad p0), .int p1] : List Value).toArray s 0 0 (ha_A ad N)) (F0 m 174 ls []) := by
            intro K hk n
            induction n with
            | zero =>
              intro v3 v4 v5 v6 v7 v8 v9 S H locs ls hf
              exact absurd (show (none : Option (Int32 × ha_St)) = some out from hf) (fun h => by cases h)
            | succ n ih =>
              intro v3 v4 v5 v6 v7 v8 v9 S H locs ls hf  hP hD hS hl
              have hf : (f_X12_hills_L174 p0 p1 (f_X12_hills_L174i p0 p1 n) v3 v4 v5 v6 v7 v8 v9 S).bind K = some out := hf
              unfold f_X12_hills_L174 at hf
              refine lv_iload hx hb dX12_hills_174 (lv_at hl 8 rfl) ?_
              refine lv_iload_n hx hb dX12_hills_176 rfl (lv_at hl 1 rfl) ?_
              refine lv_icmp_ge (tgt := 198) hx hb dX12_hills_177 (by decide) (fun c15 => ?_) (fun c15 => ?_)
              · have hf := ha_it hf c15
                exact hk v3 v4 v5 v6 v7 v8 S H locs ls hf  hP hD hS (lv_sub hl [0, 1, 2, 3, 4, 5, 6, 7] rfl)
              · have hf := ha_if hf c15
                refine lv_iload hx hb dX12_hills_180 (lv_at hl 7 rfl) ?_
                refine lv_iload hx hb dX12_hills_182 (lv_at hl 6 rfl) ?_
                refine lv_iload hx hb dX12_hills_184 (lv_at hl 8 rfl) ?_
                refine lv_ishr hx hb dX12_hills_186 ?_
                refine lv_iconst (v := 1) hx hb dX12_hills_187 (by decide) ?_
                refine lv_iand hx hb dX12_hills_188 ?_
                refine lv_iadd hx hb dX12_hills_189 ?_
                refine lv_topi (fun x16 ex16 => ?_)
                have hf := ha_nms hf ex16
                refine lv_istore (lv' := [(8, .int x16), (0, .ref (ad p0)), (1, .int p1), (3, .int v3), (4, .int v4), (5, .int v5), (6, .int v6), (7, .int v7), (9, .int v9)]) hx hb dX12_hills_190 hl (by decide) rfl (fun ls hl => ?_)
                obtain ⟨x17, ex17⟩ : ∃ y : Int32, y = (v9 : Int32) + 1 := ⟨_, rfl⟩
                have hf := ha_nms hf ex17
                refine lv_iinc (v := x17) (lv' := [(9, .int x17), (8, .int x16), (0, .ref (ad p0)), (1, .int p1), (3, .int v3), (4, .int v4), (5, .int v5), (6, .int v6), (7, .int v7)]) hx hb dX12_hills_192 hl (k := 8) rfl (by rw [ex17]; rfl) (by decide) rfl (fun ls hl => ?_)
                refine lv_goto (tgt := 174) hx hb dX12_hills_195 (by decide) ?_
                exact ih v3 v4 v5 v6 v7 x16 x17 S H locs ls hf  hP hD hS (lv_sub hl [2, 3, 4, 5, 6, 7, 8, 1, 0] rfl)
          refine key18 _ (fun v3 v4 v5 v6 v7 v8 S H locs ls hf  hP hD hS hl => ?_) ha_fu v3 v4 v5 v6 x14 0 0 S H locs ls (ha_as hf)  hP hD hS (lv_sub hl [3, 4, 5, 6, 7, 8, 2, 1, 0] rfl)
          have hf : (f_X12_hills_L144_J198 p0 p1 (f_X12_hills_L144i p0 p1 n) v3 v4 v5 v6 v7 v8 S).bind K = some out := hf
          exact J198 v3 v4 v5 v6 v7 v8 S H locs ls hf  hP hD hS (lv_sub hl [0, 1, 2, 3, 4, 5, 6, 7] rfl)
    refine key20 _ (fun v4 v5 S H locs ls hf  hP hD hS hl => ?_) ha_fu v3 (-1) 0 0 S H locs ls (ha_as hf)  hP hD hS (lv_sub hl [3, 4, 5, 2, 1, 0] rfl)
    have hf : (f_X12_hills_J271 p0 p1 v4 v5 S).bind some = some out := hf
    exact J271 v4 v5 S H locs ls hf  hP hD hS (lv_sub hl [0, 1, 2, 3] rfl)
  have J42 : ∀  (S : ha_St) (H : Heap) (locs : List Loc) (ls : Array Slot), (f_X12_hills_J42 p0 p1  S).bind some = some out → va_P D vwCl (ha_wl cs ad mo_kd mo_ln N S) H → va_D (ha_A ad N) (ha_wl cs ad mo_kd mo_ln N S) → va_S (ha_A ad N) s.heap H locs → lv_has ls 11 [(0, .ref (ad p0)), (1, .int p1)] → W p l e (headSpec wsX12_hills ({ frames := 1, cells := 0, slots := 0, locals := 25 } : Room)).room s m ([.ref (ad p0), .int p1] : List Value).toArray below meth c H locs 0 0 (MQ below (va_Qi (fun (r : Int32) (_ : Unit) => r = out.1) (fun _ => ha_H D cs ad mo_kd mo_ln N out.2) (ha_A ad N)) ([.ref (ad p0), .int p1] : List Value).toArray s 0 0 (ha_A ad N)) (F0 m 42 ls []) := by
    intro  S H locs ls hf  hP hD hS hl
    unfold f_X12_hills_J42 at hf
    refine lv_bipush (v := (-2)) hx hb dX12_hills_42 (by decide) ?_
    have he := Option.some.inj hf
    exact ha_reti hx hb hr hlocks hP hD hS dX12_hills_44 (ha_e1 he) (ha_e2 he)
  unfold f_X12_hills at hf
  refine lv_aload_n hx hb dX12_hills_0 rfl (lv_at hl 0 rfl) ?_
  refine lv_iconst (v := 0) hx hb dX12_hills_1 (by decide) ?_
  refine ha_puti hx hb hown hK hP hD hS r138 hN h0 dX12_hills_2 (fun S22 H locs eS22 hP hD hS => ?_)
  have hf := ha_nms hf eS22
  refine lv_aload_n hx hb dX12_hills_5 rfl (lv_at hl 0 rfl) ?_
  obtain ⟨z23, wz23, hf⟩ := ha_bds hf
  refine ha_callVi (As := []) (rest := []) hZ ⟨hx, hb, hml, hown, hts⟩ hK hz hP hD hS (c_X12_take hZ hN h0 wz23) cw1 hN h0 (by decide) rfl rfl hl.1 rfl (Nat.le_of_ble_eq_true rfl) dX12_hills_6 ⟨Nat.le_of_ble_eq_true rfl, Nat.le_of_ble_eq_true rfl⟩ (fun H locs hP hD hS => ?_)
  refine lv_istore_n (lv' := [(2, .int z23.1), (0, .ref (ad p0)), (1, .int p1)]) hx hb dX12_hills_9 rfl hl (by decide) rfl (fun ls hl => ?_)
  refine lv_iload_n hx hb dX12_hills_10 rfl (lv_at hl 2 rfl) ?_
  refine lv_iconst (v := 3) hx hb dX12_hills_11 (by decide) ?_
  refine lv_bipush (v := 14) hx hb dX12_hills_12 (by decide) ?_
  obtain ⟨z24, wz24, hf⟩ := ha_bds hf
  refine ha_callSi (As := [.int p1, .int 3, .int 14]) (rest := []) hZ ⟨hx, hb, hml, hown, hts⟩ hK hz hP hD hS (c_X12_isIn   wz24) cw2 rfl hl.1 rfl (Nat.le_of_ble_eq_true rfl) dX12_hills_14 ⟨Nat.le_of_ble_eq_true rfl, Nat.le_of_ble_eq_true rfl⟩ (fun H locs hP hD hS => ?_)
  refine lv_if_eq (tgt := 42) hx hb dX12_hills_17 (by decide) (fun c25 => ?_) (fun c25 => ?_)
  · have hf := ha_it hf c25
    exact J42  z23.2 H locs ls hf  hP hD hS (lv_sub hl [1, 2] rfl)
  · have hf := ha_if hf c25
    refine lv_iload_n hx hb dX12_hills_20 rfl (lv_at hl 0 rfl) ?_
    refine lv_iconst (v := 2) hx hb dX12_hills_21 (by decide) ?_
    refine lv_iload_n hx hb dX12_hills_22 rfl (lv_at hl 2 rfl) ?_
    refine lv_imul hx hb dX12_hills_23 ?_
    obtain ⟨g26, hf⟩ := ha_gds hf
    refine lv_irem hx hb dX12_hills_24 g26 ?_
    refine lv_if_ne (tgt := 42) hx hb dX12_hills_25 (by decide) (fun c27 => ?_) (fun c27 => ?_)
    · have hf := ha_it hf c27
      exact J42  z23.2 H locs ls hf  hP hD hS (lv_sub hl [1, 2] rfl)
    · have hf := ha_if hf (fun q => q c27)
      refine lv_iload_n hx hb dX12_hills_28 rfl (lv_at hl 0 rfl) ?_
      refine lv_iconst (v := 2) hx hb dX12_hills_29 (by decide) ?_
      refine lv_iload_n hx hb dX12_hills_30 rfl (lv_at hl 2 rfl) ?_
      refine lv_imul hx hb dX12_hills_31 ?_
      obtain ⟨g28, hf⟩ := ha_gds hf
      refine lv_idiv hx hb dX12_hills_32 g28 ?_
      refine lv_iconst (v := 1) hx hb dX12_hills_33 (by decide) ?_
      refine lv_bipush (v := 8) hx hb dX12_hills_34 (by decide) ?_
      obtain ⟨z29, wz29, hf⟩ := ha_bds hf
      refine ha_callSi (As := [.int (((z23.1 : Int32) / ((2 : Int32) * p1))), .int 1, .int 8]) (rest := []) hZ ⟨hx, hb, hml, hown, hts⟩ hK hz hP hD hS (c_X12_isIn   wz29) cw2 rfl hl.1 rfl (Nat.le_of_ble_eq_true rfl) dX12_hills_36 ⟨Nat.le_of_ble_eq_true rfl, Nat.le_of_ble_eq_true rfl⟩ (fun H locs hP hD hS => ?_)
      refine lv_if_ne (tgt := 45) hx hb dX12_hills_39 (by decide) (fun c30 => ?_) (fun c30 => ?_)
      · have hf := ha_it hf c30
        refine lv_iload_n hx hb dX12_hills_45 rfl (lv_at hl 0 rfl) ?_
        refine lv_iconst (v := 2) hx hb dX12_hills_46 (by decide) ?_
        refine lv_iload_n hx hb dX12_hills_47 rfl (lv_at hl 2 rfl) ?_
        refine lv_imul hx hb dX12_hills_48 ?_
        obtain ⟨g31, hf⟩ := ha_gds hf
        refine lv_idiv hx hb dX12_hills_49 g31 ?_
        refine lv_topi (fun x32 ex32 => ?_)
        have hf := ha_nms hf ex32
        refine lv_istore_n (lv' := [(3, .int x32), (2, .int z23.1), (0, .ref (ad p0)), (1, .int p1)]) hx hb dX12_hills_50 rfl hl (by decide) rfl (fun ls hl => ?_)
        refine lv_iconst (v := 0) hx hb dX12_hills_51 (by decide) ?_
        refine lv_istore (lv' := [(4, .int 0), (3, .int x32), (2, .int z23.1), (0, .ref (ad p0)), (1, .int p1)]) hx hb dX12_hills_52 hl (by decide) rfl (fun ls hl => ?_)
        have key47 : ∀ (K : (Int32 × ha_St) → Option (Int32 × ha_St)), (∀ (v3 : Int32) (S : ha_St) (H : Heap) (locs : List Loc) (ls : Array Slot), K (v3, S) = some out → va_P D vwCl (ha_wl cs ad mo_kd mo_ln N S) H → va_D (ha_A ad N) (ha_wl cs ad mo_kd mo_ln N S) → va_S (ha_A ad N) s.heap H locs → lv_has ls 11 [(0, .ref (ad p0)), (1, .int p1), (3, .int v3)] → W p l e (headSpec wsX12_hills ({ frames := 1, cells := 0, slots := 0, locals := 25 } : Room)).room s m ([.ref (ad p0), .int p1] : List Value).toArray below meth c H locs 0 0 (MQ below (va_Qi (fun (r : Int32) (_ : Unit) => r = out.1) (fun _ => ha_H D cs ad mo_kd mo_ln N out.2) (ha_A ad N)) ([.ref (ad p0), .int p1] : List Value).toArray s 0 0 (ha_A ad N)) (F0 m 135 ls [])) → ∀ (n : Nat) (v3 : Int32) (v4 : Int32) (S : ha_St) (H : Heap) (locs : List Loc) (ls : Array Slot), (f_X12_hills_L54i p0 p1 n (v3, v4, S)).bind K = some out → va_P D vwCl (ha_wl cs ad mo_kd mo_ln N S) H → va_D (ha_A ad N) (ha_wl cs ad mo_kd mo_ln N S) → va_S (ha_A ad N) s.heap H locs → lv_has ls 11 [(0, .ref (ad p0)), (1, .int p1), (3, .int v3), (4, .int v4)] → W p l e (headSpec wsX12_hills ({ frames := 1, cells := 0, slots := 0, locals := 25 } : Room)).room s m ([.ref (ad p0), .int p1] : List Value).toArray below meth c H locs 0 0 (MQ below (va_Qi (fun (r : Int32) (_ : Unit) => r = out.1) (fun _ => ha_H D cs ad mo_kd mo_ln N out.2) (ha_A ad N)) ([.ref (ad p0), .int p1] : List Value).toArray s 0 0 (ha_A ad N)) (F0 m 54 ls []) := by
          intro K hk n
          induction n with
          | zero =>
            intro v3 v4 S H locs ls hf
            exact absurd (show (none : Option (Int32 × ha_St)) = some out from hf) (fun h => by cases h)
          | succ n ih =>
            intro v3 v4 S H locs ls hf  hP hD hS hl
            have J129 : ∀ (v3 : Int32) (v4 : Int32) (S : ha_St) (H : Heap) (locs : List Loc) (ls : Array Slot), (f_X12_hills_L54_J129 p0 p1 (f_X12_hills_L54i p0 p1 n) v3 v4 S).bind K = some out → va_P D vwCl (ha_wl cs ad mo_kd mo_ln N S) H → va_D (ha_A ad N) (ha_wl cs ad mo_kd mo_ln N S) → va_S (ha_A ad N) s.heap H locs → lv_has ls 11 [(0, .ref (ad p0)), (1, .int p1), (3, .int v3), (4, .int v4)] → W p l e (headSpec wsX12_hills ({ frames := 1, cells := 0, slots := 0, locals := 25 } : Room)).room s m ([.ref (ad p0), .int p1] : List Value).toArray below meth c H locs 0 0 (MQ below (va_Qi (fun (r : Int32) (_ : Unit) => r = out.1) (fun _ => ha_H D cs ad mo_kd mo_ln N out.2) (ha_A ad N)) ([.ref (ad p0), .int p1] : List Value).toArray s 0 0 (ha_A ad N)) (F0 m 129 ls []) := by
              intro v3 v4 S H locs ls hf  hP hD hS hl
              unfold f_X12_hills_L54_J129 at hf
              obtain ⟨x33, ex33⟩ : ∃ y : Int32, y = (v4 : Int32) + 1 := ⟨_, rfl⟩
              have hf := ha_nms hf ex33
              refine lv_iinc (v := x33) (lv' := [(4, .int x33), (0, .ref (ad p0)), (1, .int p1), (3, .int v3)]) hx hb dX12_hills_129 hl (k := 3) rfl (by rw [ex33]; rfl) (by decide) rfl (fun ls hl => ?_)
              refine lv_goto (tgt := 54) hx hb dX12_hills_132 (by decide) ?_
              exact ih v3 x33 S H locs ls hf  hP hD hS (lv_sub hl [1, 2, 3, 0] rfl)
            have hf : (f_X12_hills_L54 p0 p1 (f_X12_hills_L54i p0 p1 n) v3 v4 S).bind K = some out := hf
            unfold f_X12_hills_L54 at hf
            refine lv_iload hx hb dX12_hills_54 (lv_at hl 3 rfl) ?_
            refine lv_iload_n hx hb dX12_hills_56 rfl (lv_at hl 2 rfl) ?_
            refine lv_icmp_ge (tgt := 135) hx hb dX12_hills_57 (by decide) (fun c34 => ?_) (fun c34 => ?_)
            · have hf := ha_it hf c34
              exact hk v3 S H locs ls hf  hP hD hS (lv_sub hl [0, 1, 2] rfl)
            · have hf := ha_if hf c34
              refine lv_iconst (v := 0) hx hb dX12_hills_60 (by decide) ?_
              refine lv_istore (lv' := [(5, .int 0), (0, .ref (ad p0)), (1, .int p1), (3, .int v3), (4, .int v4)]) hx hb dX12_hills_61 hl (by decide) rfl (fun ls hl => ?_)
              have key45 : ∀ (K : (Int32 × Int32 × ha_St) → Option (Int32 × ha_St)), (∀ (v3 : Int32) (v4 : Int32) (S : ha_St) (H : Heap) (locs : List Loc) (ls : Array Slot), K (v3, v4, S) = some out → va_P D vwCl (ha_wl cs ad mo_kd mo_ln N S) H → va_D (ha_A ad N) (ha_wl cs ad mo_kd mo_ln N S) → va_S (ha_A ad N) s.heap H locs → lv_has ls 11 [(0, .ref (ad p0)), (1, .int p1), (3, .int v3), (4, .int v4)] → W p l e (headSpec wsX12_hills ({ frames := 1, cells := 0, slots := 0, locals := 25 } : Room)).room s m ([.ref (ad p0), .int p1] : List Value).toArray below meth c H locs 0 0 (MQ below (va_Qi (fun (r : Int32) (_ : Unit) => r = out.1) (fun _ => ha_H D cs ad mo_kd mo_ln N out.2) (ha_A ad N)) ([.ref (ad p0), .int p1] : List Value).toArray s 0 0 (ha_A ad N)) (F0 m 129 ls [])) → ∀ (n : Nat) (v3 : Int32) (v4 : Int32) (v5 : Int32) (S : ha_St) (H : Heap) (locs : List Loc) (ls : Array Slot), (f_X12_hills_L63i p0 p1 n (v3, v4, v5, S)).bind K = some out → va_P D vwCl (ha_wl cs ad mo_kd mo_ln N S) H → va_D (ha_A ad N) (ha_wl cs ad mo_kd mo_ln N S) → va_S (ha_A ad N) s.heap H locs → lv_has ls 11 [(0, .ref (ad p0)), (1, .int p1), (3, .int v3), (4, .int v4), (5, .int v5)] → W p l e (headSpec wsX12_hills ({ frames := 1, cells := 0, slots := 0, locals := 25 } : Room)).room s m ([.ref (ad p0), .int p1] : List Value).toArray below meth c H locs 0 0 (MQ below (va_Qi (fun (r : Int32) (_ : Unit) => r = out.1) (fun _ => ha_H D cs ad mo_kd mo_ln N out.2) (ha_A ad N)) ([.ref (ad p0), .int p1] : List Value).toArray s 0 0 (ha_A ad N)) (F0 m 63 ls []) := by
                intro K hk n
                induction n with
                | zero =>
                  intro v3 v4 v5 S H locs ls hf
                  exact absurd (show (none : Option (Int32 × ha_St)) = some out from hf) (fun h => by cases h)
                | succ n ih =>
                  intro v3 v4 v5 S H locs ls hf  hP hD hS hl
                  have hf : (f_X12_hills_L63 p0 p1 (f_X12_hills_L63i p0 p1 n) v3 v4 v5 S).bind K = some out := hf
                  unfold f_X12_hills_L63 at hf
                  refine lv_iload hx hb dX12_hills_63 (lv_at hl 4 rfl) ?_
                  refine lv_iload_n hx hb dX12_hills_65 rfl (lv_at hl 1 rfl) ?_
                  refine lv_icmp_ge (tgt := 129) hx hb dX12_hills_66 (by decide) (fun c35 => ?_) (fun c35 => ?_)
                  · have hf := ha_it hf c35
                    exact hk v3 v4 S H locs ls hf  hP hD hS (lv_sub hl [0, 1, 2, 3] rfl)
                  · have hf := ha_if hf c35
                    refine lv_iconst (v := 2) hx hb dX12_hills_69 (by decide) ?_
                    refine lv_iload_n hx hb dX12_hills_70 rfl (lv_at hl 1 rfl) ?_
                    refine lv_iload hx hb dX12_hills_71 (lv_at hl 3 rfl) ?_
                    refine lv_imul hx hb dX12_hills_73 ?_
                    refine lv_iload hx hb dX12_hills_74 (lv_at hl 4 rfl) ?_
                    refine lv_iadd hx hb dX12_hills_76 ?_
                    refine lv_imul hx hb dX12_hills_77 ?_
                    refine lv_topi (fun x36 ex36 => ?_)
                    have hf := ha_nms hf ex36
                    refine lv_istore (lv' := [(6, .int x36), (0, .ref (ad p0)), (1, .int p1), (3, .int v3), (4, .int v4), (5, .int v5)]) hx hb dX12_hills_78 hl (by decide) rfl (fun ls hl => ?_)
                    refine lv_aload_n hx hb dX12_hills_80 rfl (lv_at hl 1 rfl) ?_
                    obtain ⟨r37, wr37, hf⟩ := ha_bds hf
                    obtain ⟨wr37, hr37⟩ := ha_rf_some wr37
                    refine ha_getr hx hb hown hK hP q135 hN h0 wr37 dX12_hills_81 ?_
                    refine lv_bipush (v := 14) hx hb dX12_hills_84 (by decide) ?_
                    refine lv_iload hx hb dX12_hills_86 (lv_at hl 4 rfl) ?_
                    refine lv_imul hx hb dX12_hills_88 ?_
                    refine lv_iload hx hb dX12_hills_89 (lv_at hl 5 rfl) ?_
                    refine lv_iadd hx hb dX12_hills_91 ?_
                    refine lv_sipush (v := 256) hx hb dX12_hills_92 (by decide) ?_
                    refine lv_aload_n hx hb dX12_hills_95 rfl (lv_at hl 1 rfl) ?_
                    obtain ⟨r38, wr38, hf⟩ := ha_bds hf
                    obtain ⟨wr38, hr38⟩ := ha_rf_some wr38
                    refine ha_getr hx hb hown hK hP q7 hN h0 wr38 dX12_hills_96 ?_
                    refine lv_iload hx hb dX12_hills_99 (lv_at hl 0 rfl) ?_
                    obtain ⟨g39, hf⟩ := ha_gds hf
                    refine ha_iald hx hb hK hP hN hr38 g39 dX12_hills_101 ?_
                    refine lv_imul hx hb dX12_hills_102 ?_
                    refine lv_aload_n hx hb dX12_hills_103 rfl (lv_at hl 1 rfl) ?_
                    obtain ⟨r40, wr40, hf⟩ := ha_bds hf
                    obtain ⟨wr40, hr40⟩ := ha_rf_some wr40
                    refine ha_getr hx hb hown hK hP q7 hN h0 wr40 dX12_hills_104 ?_
                    refine lv_iload hx hb dX12_hills_107 (lv_at hl 0 rfl) ?_
                    refine lv_iconst (v := 1) hx hb dX12_hills_109 (by decide) ?_
                    refine lv_iadd hx hb dX12_hills_110 ?_
                    obtain ⟨g41, hf⟩ := ha_gds hf
                    refine ha_iald hx hb hK hP hN hr40 g41 dX12_hills_111 ?_
                    refine lv_iadd hx hb dX12_hills_112 ?_
                    refine lv_iconst (v := 1) hx hb dX12_hills_113 (by decide) ?_
                    refine lv_iload_n hx hb dX12_hills_114 rfl (lv_at hl 2 rfl) ?_
                    refine lv_ishl hx hb dX12_hills_115 ?_
                    refine lv_iconst (v := 2) hx hb dX12_hills_116 (by decide) ?_
                    refine lv_iload hx hb dX12_hills_117 (lv_at hl 5 rfl) ?_
                    refine lv_ishl hx hb dX12_hills_119 ?_
                    refine lv_isub hx hb dX12_hills_120 ?_
                    refine lv_iand hx hb dX12_hills_121 ?_
                    obtain ⟨g42, hf⟩ := ha_gds hf
                    refine ha_iast hx hb hK hP hD hS hN hr37 g42 dX12_hills_122 (fun S43 H locs eS43 hP hD hS => ?_)
                    have hf := ha_nms hf eS43
                    obtain ⟨x44, ex44⟩ : ∃ y : Int32, y = (v5 : Int32) + 1 := ⟨_, rfl⟩
                    have hf := ha_nms hf ex44
                    refine lv_iinc (v := x44) (lv' := [(5, .int x44), (6, .int x36), (0, .ref (ad p0)), (1, .int p1), (3, .int v3), (4, .int v4)]) hx hb dX12_hills_123 hl (k := 5) rfl (by rw [ex44]; rfl) (by decide) rfl (fun ls hl => ?_)
                    refine lv_goto (tgt := 63) hx hb dX12_hills_126 (by decide) ?_
                    exact ih v3 v4 x44 S43 H locs ls hf  hP hD hS (lv_sub hl [2, 3, 4, 5, 0] rfl)
              refine key45 _ (fun v3 v4 S H locs ls hf  hP hD hS hl => ?_) ha_fu v3 v4 0 S H locs ls (ha_as hf)  hP hD hS (lv_sub hl [1, 2, 3, 4, 0] rfl)
              have hf : (f_X12_hills_L54_J129 p0 p1 (f_X12_hills_L54i p0 p1 n) v3 v4 S).bind K = some out := hf
              exact J129 v3 v4 S H locs ls hf  hP hD hS (lv_sub hl [0, 1, 2, 3] rfl)
        refine key47 _ (fun v3 S H locs ls hf  hP hD hS hl => ?_) ha_fu x32 0 z23.2 H locs ls (ha_as hf)  hP hD hS (lv_sub hl [3, 4, 1, 0] rfl)
        have hf : (f_X12_hills_J135 p0 p1 v3 S).bind some = some out := hf
        exact J135 v3 S H locs ls hf  hP hD hS (lv_sub hl [0, 1, 2] rfl)
      · have hf := ha_if hf (fun q => q c30)
        exact J42  z23.2 H locs ls hf  hP hD hS (lv_sub hl [1, 2] rfl)

set_option maxHeartbeats 4000000 in
set_option maxRecDepth 100000 in
theorem c_X12_hillSet {l : Launch} {D : va_G} {cs : Nat → ClassId} {ad : Nat → Nat} {N : List Nat} {Z : State → Prop} (hZ : ha_Zok (ha_A ad N) Z) (hN : ∀ x, mo_kd x < 999 → x ∈ N) {p0 : Nat} {S : ha_St} {out : Int32 × ha_St} (h0 : mo_kd p0 = 12) (hf : f_X12_hillSet p0 S = some out) : ha_Ci l D cs ad mo_kd mo_ln N Z yX12_hillSet wsX12_hillSet ({ frames := 0, cells := 0, slots := 0, locals := 0 } : Room) [.ref (ad p0)] S out.1 out.2 := by
  refine Met.ofW (cc := cX12_hillSet) (maxL := 1) (ret := (some .int)) (by decide +kernel) rfl ?_
  intro p e s m args below meth c s₁ B hml hv
  obtain ⟨rfl, hP, hD, hK, hz⟩ := hv
  have hx := B.exec
  have hb := B.bytes
  have hr := B.returns
  have hts := atoms_spec (ws := wsX12_hillSet) B.pre
  have hown : s.vm.findClass RX12 = some m.cls := findClass_of_methodNamed B.named
  have hlocks := B.notSynchronized
  have hS : va_S (ha_A ad N) s.heap s.heap [] := va_S.rf
  have hi12 : ∀ w ∈ wsX120, w ∈ wsX12_hillSet := fun w h => List.mem_cons_of_mem _ (List.mem_append_right _ h)
  have q392 : ha_Fk s ([.ref (ad p0)] : List Value).toArray RX12 392 12 82 0 := ⟨RX12, TX12, 83, wsX12_hillSet, rfl, by decide, by decide, rfl, rfl, hts, hi12, hts (.fieldLink RX12 392 "HillArmsModel" "hillSet" "I") (by decide +kernel)⟩
  have r138 : ha_Fp s ([.ref (ad p0)] : List Value).toArray RX12 138 12 0 0 .int := ⟨RX12, TX12, 83, wsX12_hillSet, tyX12, rfl, by decide, by decide, rfl, rfl, hts, hi12, hts (.fieldLink RX12 138 "HillArmsModel" "thrown" "I") (by decide +kernel), tyX12_ok, nmX12, rfl, by decide +kernel⟩
  have hl := lv_entry ([.ref (ad p0)]) (n := 1) (Nat.le_of_ble_eq_true rfl)
  rw [lg_entry_eq]
  generalize (lg_sl ([.ref (ad p0)]) ++ List.replicate (1 - (lg_sl ([.ref (ad p0)])).length) Slot.unset).toArray = ls at hl ⊢
  have hl : lv_has ls 1 [(0, .ref (ad p0))] := hl
  refine (fun (K0 : ∀ (H : Heap) (locs : List Loc), va_P D vwCl (ha_wl cs ad mo_kd mo_ln N S) H → va_S (ha_A ad N) s.heap H locs → W p l e (headSpec wsX12_hillSet ({ frames := 0, cells := 0, slots := 0, locals := 0 } : Room)).room s m ([.ref (ad p0)] : List Value).toArray below meth c H locs 0 0 (MQ below (va_Qi (fun (r : Int32) (_ : Unit) => r = out.1) (fun _ => ha_H D cs ad mo_kd mo_ln N out.2) (ha_A ad N)) ([.ref (ad p0)] : List Value).toArray s 0 0 (ha_A ad N)) (F0 m 0 ls [])) => K0 _ _ hP hS) ?_
  intro H locs hP hS
  have hf := ha_rt hf
  unfold f_X12_hillSet at hf
  refine lv_aload_n hx hb dX12_hillSet_0 rfl (lv_at hl 0 rfl) ?_
  refine lv_iconst (v := 0) hx hb dX12_hillSet_1 (by decide) ?_
  refine ha_puti hx hb hown hK hP hD hS r138 hN h0 dX12_hillSet_2 (fun S1 H locs eS1 hP hD hS => ?_)
  have hf := ha_nms hf eS1
  refine lv_aload_n hx hb dX12_hillSet_5 rfl (lv_at hl 0 rfl) ?_
  refine ha_geti hx hb hown hK hP q392 hN h0 dX12_hillSet_6 ?_
  have he := Option.some.inj hf
  exact ha_reti hx hb hr hlocks hP hD hS dX12_hillSet_9 (ha_e1 he) (ha_e2 he)

set_option maxHeartbeats 4000000 in
set_option maxRecDepth 100000 in
theorem c_X12_count {l : Launch} {D : va_G} {cs : Nat → ClassId} {ad : Nat → Nat} {N : List Nat} {Z : State → Prop} (hZ : ha_Zok (ha_A ad N) Z) (hN : ∀ x, mo_kd x < 999 → x ∈ N) {p0 : Nat} {p1 : Int32} {S : ha_St} {out : Int32 × ha_St} (h0 : mo_kd p0 = 12) (hf : f_X12_count p0 p1 S = some out) : ha_Ci l D cs ad mo_kd mo_ln N Z yX12_count wsX12_count ({ frames := 0, cells := 0, slots := 0, locals := 0 } : Room) [.ref (ad p0), .int p1] S out.1 out.2 := by
  refine Met.ofW (cc := cX12_count) (maxL := 2) (ret := (some .int)) (by decide +kernel) rfl ?_
  intro p e s m args below meth c s₁ B hml hv
  obtain ⟨rfl, hP, hD, hK, hz⟩ := hv
  have hx := B.exec
  have hb := B.bytes
  have hr := B.returns
  have hts := atoms_spec (ws := wsX12_count) B.pre
  have hown : s.vm.findClass RX12 = some m.cls := findClass_of_methodNamed B.named
  have hlocks := B.notSynchronized
  have hS : va_S (ha_A ad N) s.heap s.heap [] := va_S.rf
  have hi12 : ∀ w ∈ wsX120, w ∈ wsX12_count := fun w h => List.mem_cons_of_mem _ (List.mem_append_right _ h)
  have q152 : ha_Fk s ([.ref (ad p0), .int p1] : List Value).toArray RX12 152 12 3 0 := ⟨RX12, TX12, 83, wsX12_count, rfl, by decide, by decide, rfl, rfl, hts, hi12, hts (.fieldLink RX12 152 "HillArmsModel" "today" "I") (by decide +kernel)⟩
  have q13 : ha_Fk s ([.ref (ad p0), .int p1] : List Value).toArray RX12 13 12 4 0 := ⟨RX12, TX12, 83, wsX12_count, rfl, by decide, by decide, rfl, rfl, hts, hi12, hts (.fieldLink RX12 13 "HillArmsModel" "n" "I") (by decide +kernel)⟩
  have q155 : ha_Fk s ([.ref (ad p0), .int p1] : List Value).toArray RX12 155 12 31 0 := ⟨RX12, TX12, 83, wsX12_count, rfl, by decide, by decide, rfl, rfl, hts, hi12, hts (.fieldLink RX12 155 "HillArmsModel" "fogs" "I") (by decide +kernel)⟩
  have q359 : ha_Fk s ([.ref (ad p0), .int p1] : List Value).toArray RX12 359 12 67 0 := ⟨RX12, TX12, 83, wsX12_count, rfl, by decide, by decide, rfl, rfl, hts, hi12, hts (.fieldLink RX12 359 "HillArmsModel" "entries" "I") (by decide +kernel)⟩
  have q158 : ha_Fk s ([.ref (ad p0), .int p1] : List Value).toArray RX12 158 12 80 0 := ⟨RX12, TX12, 83, wsX12_count, rfl, by decide, by decide, rfl, rfl, hts, hi12, hts (.fieldLink RX12 158 "HillArmsModel" "notes" "I") (by decide +kernel)⟩
  have q264 : ha_Fk s ([.ref (ad p0), .int p1] : List Value).toArray RX12 264 12 30 0 := ⟨RX12, TX12, 83, wsX12_count, rfl, by decide, by decide, rfl, rfl, hts, hi12, hts (.fieldLink RX12 264 "HillArmsModel" "signs" "I") (by decide +kernel)⟩
  have q141 : ha_Fk s ([.ref (ad p0), .int p1] : List Value).toArray RX12 141 12 2 0 := ⟨RX12, TX12, 83, wsX12_count, rfl, by decide, by decide, rfl, rfl, hts, hi12, hts (.fieldLink RX12 141 "HillArmsModel" "taped" "I") (by decide +kernel)⟩
  have r138 : ha_Fp s ([.ref (ad p0), .int p1] : List Value).toArray RX12 138 12 0 0 .int := ⟨RX12, TX12, 83, wsX12_count, tyX12, rfl, by decide, by decide, rfl, rfl, hts, hi12, hts (.fieldLink RX12 138 "HillArmsModel" "thrown" "I") (by decide +kernel), tyX12_ok, nmX12, rfl, by decide +kernel⟩
  have hl := lv_entry ([.ref (ad p0), .int p1]) (n := 2) (Nat.le_of_ble_eq_true rfl)
  rw [lg_entry_eq]
  generalize (lg_sl ([.ref (ad p0), .int p1]) ++ List.replicate (2 - (lg_sl ([.ref (ad p0), .int p1])).length) Slot.unset).toArray = ls at hl ⊢
  have hl : lv_has ls 2 [(0, .ref (ad p0)), (1, .int p1)] := hl
  refine (fun (K0 : ∀ (H : Heap) (locs : List Loc), va_P D vwCl (ha_wl cs ad mo_kd mo_ln N S) H → va_S (ha_A ad N) s.heap H locs → W p l e (headSpec wsX12_count ({ frames := 0, cells := 0, slots := 0, locals := 0 } : Room)).room s m ([.ref (ad p0), .int p1] : List Value).toArray below meth c H locs 0 0 (MQ below (va_Qi (fun (r : Int32) (_ : Unit) => r = out.1) (fun _ => ha_H D cs ad mo_kd mo_ln N out.2) (ha_A ad N)) ([.ref (ad p0), .int p1] : List Value).toArray s 0 0 (ha_A ad N)) (F0 m 0 ls [])) => K0 _ _ hP hS) ?_
  intro H locs hP hS
  have hf := ha_rt hf
  unfold f_X12_count at hf
  refine lv_aload_n hx hb dX12_count_0 rfl (lv_at hl 0 rfl) ?_
  refine lv_iconst (v := 0) hx hb dX12_count_1 (by decide) ?_
  refine ha_puti hx hb hown hK hP hD hS r138 hN h0 dX12_count_2 (fun S1 H locs eS1 hP hD hS => ?_)
  have hf := ha_nms hf eS1
  refine lv_iload_n hx hb dX12_count_5 rfl (lv_at hl 1 rfl) ?_
  refine lv_topi (fun xs exs => ?_)
  have hf := ha_nms hf exs
  by_cases cs0 : xs = 0
  · have hf := ha_it hf cs0
    refine ha_tsin (tgt := 48) hx hb dX12_count_6 0 cs0 (by decide) rfl (by decide) ?_
    refine lv_aload_n hx hb dX12_count_48 rfl (lv_at hl 0 rfl) ?_
    refine ha_geti hx hb hown hK hP q152 hN h0 dX12_count_49 ?_
    have he := Option.some.inj hf
    exact ha_reti hx hb hr hlocks hP hD hS dX12_count_52 (ha_e1 he) (ha_e2 he)
  · have hf := ha_if hf cs0
    by_cases cs1 : xs = 1
    · have hf := ha_it hf cs1
      refine ha_tsin (tgt := 53) hx hb dX12_count_6 1 cs1 (by decide) rfl (by decide) ?_
      refine lv_aload_n hx hb dX12_count_53 rfl (lv_at hl 0 rfl) ?_
      refine ha_geti hx hb hown hK hP q13 hN h0 dX12_count_54 ?_
      have he := Option.some.inj hf
      exact ha_reti hx hb hr hlocks hP hD hS dX12_count_57 (ha_e1 he) (ha_e2 he)
    · have hf := ha_if hf cs1
      by_cases cs2 : xs = 2
      · have hf := ha_it hf cs2
        refine ha_tsin (tgt := 58) hx hb dX12_count_6 2 cs2 (by decide) rfl (by decide) ?_
        refine lv_aload_n hx hb dX12_count_58 rfl (lv_at hl 0 rfl) ?_
        refine ha_geti hx hb hown hK hP q155 hN h0 dX12_count_59 ?_
        have he := Option.some.inj hf
        exact ha_reti hx hb hr hlocks hP hD hS dX12_count_62 (ha_e1 he) (ha_e2 he)
      · have hf := ha_if hf cs2
        by_cases cs3 : xs = 3
        · have hf := ha_it hf cs3
          refine ha_tsin (tgt := 63) hx hb dX12_count_6 3 cs3 (by decide) rfl (by decide) ?_
          refine lv_aload_n hx hb dX12_count_63 rfl (lv_at hl 0 rfl) ?_
          refine ha_geti hx hb hown hK hP q359 hN h0 dX12_count_64 ?_
          have he := Option.some.inj hf
          exact ha_reti hx hb hr hlocks hP hD hS dX12_count_67 (ha_e1 he) (ha_e2 he)
        · have hf := ha_if hf cs3
          by_cases cs4 : xs = 4
          · have hf := ha_it hf cs4
            refine ha_tsin (tgt := 68) hx hb dX12_count_6 4 cs4 (by decide) rfl (by decide) ?_
            refine lv_aload_n hx hb dX12_count_68 rfl (lv_at hl 0 rfl) ?_
            refine ha_geti hx hb hown hK hP q158 hN h0 dX12_count_69 ?_
            have he := Option.some.inj hf
            exact ha_reti hx hb hr hlocks hP hD hS dX12_count_72 (ha_e1 he) (ha_e2 he)
          · have hf := ha_if hf cs4
            by_cases cs5 : xs = 5
            · have hf := ha_it hf cs5
              refine ha_tsin (tgt := 73) hx hb dX12_count_6 5 cs5 (by decide) rfl (by decide) ?_
              refine lv_aload_n hx hb dX12_count_73 rfl (lv_at hl 0 rfl) ?_
              refine ha_geti hx hb hown hK hP q264 hN h0 dX12_count_74 ?_
              have he := Option.some.inj hf
              exact ha_reti hx hb hr hlocks hP hD hS dX12_count_77 (ha_e1 he) (ha_e2 he)
            · have hf := ha_if hf cs5
              by_cases cs6 : xs = 6
              · have hf := ha_it hf cs6
                refine ha_tsin (tgt := 78) hx hb dX12_count_6 6 cs6 (by decide) rfl (by decide) ?_
                refine lv_aload_n hx hb dX12_count_78 rfl (lv_at hl 0 rfl) ?_
                refine ha_geti hx hb hown hK hP q141 hN h0 dX12_count_79 ?_
                have he := Option.some.inj hf
                exact ha_reti hx hb hr hlocks hP hD hS dX12_count_82 (ha_e1 he) (ha_e2 he)
              · have hf := ha_if hf cs6
                have ncs0 := lv_neT cs0 (show (0 : Int32).toInt = 0 by decide)
                have ncs1 := lv_neT cs1 (show (1 : Int32).toInt = 1 by decide)
                have ncs2 := lv_neT cs2 (show (2 : Int32).toInt = 2 by decide)
                have ncs3 := lv_neT cs3 (show (3 : Int32).toInt = 3 by decide)
                have ncs4 := lv_neT cs4 (show (4 : Int32).toInt = 4 by decide)
                have ncs5 := lv_neT cs5 (show (5 : Int32).toInt = 5 by decide)
                have ncs6 := lv_neT cs6 (show (6 : Int32).toInt = 6 by decide)
                refine lv_tableOut (tgt := 83) hx hb dX12_count_6 (by omega) (by decide) ?_
                refine lv_iconst (v := (-1)) hx hb dX12_count_83 (by decide) ?_
                have he := Option.some.inj hf
                exact ha_reti hx hb hr hlocks hP hD hS dX12_count_84 (ha_e1 he) (ha_e2 he)

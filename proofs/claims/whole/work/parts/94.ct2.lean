/-! CONSTRUCTORS THAT CALL OTHERS -/
def i_X9 (S : ha_St) : ha_St := (ha_sR (i_X8 14 (ha_sR S 3 0 (some 148))) 3 2 (some 14))
theorem ct_X9 {l : Launch} {D : va_G} {cs : Nat → ClassId} {ad : Nat → Nat} {N : List Nat} {z0 : Nat} {S : ha_St} (h0 : 3 ∈ N) (hL : ∀ x, x ∈ ([148, 14, (100 + 16 * 14 + 0), (100 + 16 * 14 + 1), (100 + 16 * 14 + 2), (100 + 16 * 14 + 3), (100 + 16 * 14 + 4), (100 + 16 * 14 + 5), (100 + 16 * 14 + 6), (100 + 16 * 14 + 7)] : List Nat) → x ∉ N) : ct_Met l D cs ad xo_kd xo_ln N z0 yX9_init wsX9_init ({ frames := 2, cells := 10, slots := 292, locals := 32 } : Room) [.ref (ad 3)] S [148, 14, (100 + 16 * 14 + 0), (100 + 16 * 14 + 1), (100 + 16 * 14 + 2), (100 + 16 * 14 + 3), (100 + 16 * 14 + 4), (100 + 16 * 14 + 5), (100 + 16 * 14 + 6), (100 + 16 * 14 + 7)] (i_X9 S) 10 292 := by
  refine Met.ofW (cc := cX9_init) (maxL := 1) (ret := none) (by decide +kernel) rfl ?_
  intro p e s m args below meth c s₁ B hml hv
  obtain ⟨rfl, hP, hD, hK, hz, hNl, hC, hB⟩ := hv
  have hx := B.exec
  have hb := B.bytes
  have hr := B.returns
  have hts := atoms_spec (ws := wsX9_init) B.pre
  have hown : s.vm.findClass RX9 = some m.cls := findClass_of_methodNamed B.named
  have hlocks := B.notSynchronized
  have hin : meth.name = "<init>" := (name_of_methodNamed B.named B.method).1
  have hi : ∀ w ∈ wsX90, w ∈ wsX9_init := fun w h => List.mem_cons_of_mem _ (List.mem_append_left _ (List.mem_append_right _ h))
  have h0k : xo_kd 3 = 9 := by decide +kernel
  have G : gw_G D cs ad xo_kd xo_ln N S z0 s.heap s.heap [] := ⟨hP, hD, va_S.rf, hC, hB, hz⟩
  have hl := lv_entry ([.ref (ad 3)]) (n := 1) (Nat.le_of_ble_eq_true rfl)
  rw [lg_entry_eq]
  generalize (lg_sl ([.ref (ad 3)]) ++ List.replicate (1 - (lg_sl ([.ref (ad 3)])).length) Slot.unset).toArray = ls at hl ⊢
  have hl : lv_has ls 1 [(0, .ref (ad 3))] := hl
  refine lv_aload_n hx hb dX9_init_0 rfl (lv_at hl 0 rfl) ?_
  refine W.objInit hx hb hown (hts (.methodLink RX9 3 objectInit) (by decide +kernel)) (hts (.instanceMethod objectInit) (by decide +kernel)) (hts _ (List.mem_cons_of_mem _ (List.mem_append_left _ (List.mem_append_left _ (List.mem_of_getElem? (i := 2) rfl))))) rfl (by rw [hml]; exact hl.1) rfl dX9_init_1 (Nat.le_of_ble_eq_true rfl) (Nat.le_of_ble_eq_true rfl) ?_
  refine lv_aload_n hx hb dX9_init_4 rfl (lv_at hl 0 rfl) ?_
  refine lv_iconst (v := 0) hx hb dX9_init_5 (by decide) ?_
  refine gw_newi hx hb (hts (.arrayClass .int) (by decide +kernel)) hK G (n := 148) (L := 0) (hL _ (by simp)) (by decide +kernel) (by decide +kernel) (by decide +kernel) (by decide +kernel) (by decide) (Nat.le_of_ble_eq_true rfl) (Nat.le_of_ble_eq_true rfl) dX9_init_6 (fun ad1 H a1 G => ?_)
  have A1 : ∀ y, y ∈ N → ad1 y = ad y := fun y hy => a1 y hy
  have G : gw_G D cs ad1 xo_kd xo_ln (N ++ [148]) _ z0 s.heap H _ := G
  refine gw_putr (n := 3) (r := 148) (k := 0) hx hb hown hK G (⟨RX9, TX9, 8, wsX9_init, tyX9, rfl, by decide, by decide, rfl, rfl, hts, hi, hts (.fieldLink RX9 9 "HillArms$Reader" "bytes" "[I") (by decide +kernel), tyX9_ok, nmX9, rfl, by decide +kernel⟩ : ha_Fp s ([.ref (ad 3)] : List Value).toArray RX9 9 9 0 1 (.array .int)) (List.mem_append_left _ h0) h0k (List.mem_append_right _ (by simp)) ((a1 _ h0).trans rfl) rfl rfl rfl dX9_init_8 (fun H locs G => ?_)
  refine lv_aload_n hx hb dX9_init_11 rfl (lv_at hl 0 rfl) ?_
  refine gw_new (ci := 8) (Ts := wsX9_init) hx hb hts (fun w h => List.mem_cons_of_mem _ (List.mem_append_right _ h)) tyX8 tyX8_ok hown (hts (.classLink RX9 15 RX8) (by decide +kernel)) (hts (.instantiable RX8 12) (by decide +kernel)) (hts (.initialized RX8) (by decide +kernel)) hK G (n := 14) (gw_nin (hL _ (by simp)) (by simp only [List.mem_cons, List.not_mem_nil, or_false]; omega)) (by decide +kernel) (by decide) rfl rfl df_X8 (Nat.le_of_ble_eq_true rfl) (Nat.le_of_ble_eq_true rfl) dX9_init_12 (fun ad2 H a2 G => ?_)
  have A2 : ∀ y, y ∈ N → ad2 y = ad y := fun y hy => (a2 y (List.mem_append_left _ hy)).trans (A1 y hy)
  rw [List.append_assoc] at G
  have G : gw_G D cs ad2 xo_kd xo_ln (N ++ [148, 14]) _ z0 s.heap H _ := G
  refine lv_dup hx hb dX9_init_15 rfl ?_
  refine gw_callN (As := []) (rest := [.ref (ad2 14), .ref (ad 3)]) (b := (ad2 14)) (L := [(100 + 16 * 14 + 0), (100 + 16 * 14 + 1), (100 + 16 * 14 + 2), (100 + 16 * 14 + 3), (100 + 16 * 14 + 4), (100 + 16 * 14 + 5), (100 + 16 * 14 + 6), (100 + 16 * 14 + 7)]) ⟨hx, hb, hml, hown, hts⟩ hK hNl G (by rw [show ((ad2 14) : Nat) = ad2 14 from rfl.symm]; exact (ct_X8 (p0 := 14) (by omega) (by omega) (List.mem_append_right _ (by simp)) (fun x hx => gw_nin (hL x (by simp only [List.mem_cons, List.not_mem_nil, or_false] at hx ⊢; omega)) (by simp only [List.mem_cons, List.not_mem_nil, or_false] at hx ⊢; omega)))) ⟨va_cnB 0 hts gX9_init_X8_init_n17 (rm := ({ frames := 1, cells := 8, slots := 280, locals := 12 } : Room)) (mc := 8) (ms := 280) rfl rfl rfl (hNl.2.1) (hts (.initialized RX8) (by decide +kernel)) (by decide +kernel) ⟨Nat.le_of_ble_eq_true rfl, Nat.le_of_ble_eq_true rfl⟩, rfl, hts (.instanceMethod yX8_init) (by decide +kernel)⟩ rfl hl.1 rfl (Nat.le_of_ble_eq_true rfl) dX9_init_16 ⟨Nat.le_of_ble_eq_true rfl, Nat.le_of_ble_eq_true rfl⟩ (fun ad3 H locs a3 G => ?_)
  have A3 : ∀ y, y ∈ N → ad3 y = ad y := fun y hy => (a3 y (List.mem_append_left _ hy)).trans (A2 y hy)
  rw [List.append_assoc] at G
  have G : gw_G D cs ad3 xo_kd xo_ln (N ++ [148, 14, (100 + 16 * 14 + 0), (100 + 16 * 14 + 1), (100 + 16 * 14 + 2), (100 + 16 * 14 + 3), (100 + 16 * 14 + 4), (100 + 16 * 14 + 5), (100 + 16 * 14 + 6), (100 + 16 * 14 + 7)]) _ z0 s.heap H _ := G
  refine gw_putr (n := 3) (r := 14) (k := 2) hx hb hown hK G (⟨RX9, TX9, 8, wsX9_init, tyX9, rfl, by decide, by decide, rfl, rfl, hts, hi, hts (.fieldLink RX9 18 "HillArms$Reader" "into" "LHillArms$Program;") (by decide +kernel), tyX9_ok, nmX9, rfl, by decide +kernel⟩ : ha_Fp s ([.ref (ad 3)] : List Value).toArray RX9 18 9 2 1 (.object "HillArms$Program")) (List.mem_append_left _ h0) h0k (List.mem_append_right _ (by simp)) ((a3 _ (List.mem_append_left _ h0)).trans ((a2 _ (List.mem_append_left _ h0)).trans ((a1 _ h0).trans rfl))) ((a3 _ (List.mem_append_right _ (by simp))).trans rfl) rfl rfl dX9_init_19 (fun H locs G => ?_)
  exact gw_ret hx hb hr hlocks A3 G rfl dX9_init_22

def i_X7 (S : ha_St) : ha_St := (ha_sI (ha_sR (ha_sR (i_X516 S) 4 0 (some 16)) 4 1 (some 165)) 4 2 (-1))
theorem ct_X7 {l : Launch} {D : va_G} {cs : Nat → ClassId} {ad : Nat → Nat} {N : List Nat} {z0 : Nat} {S : ha_St} (h0 : 4 ∈ N) (hL : ∀ x, x ∈ ([16, 356, 357, 358, 359, 165] : List Nat) → x ∉ N) : ct_Met l D cs ad xo_kd xo_ln N z0 yX7_init wsX7_init ({ frames := 2, cells := 6, slots := 8220, locals := 34 } : Room) [.ref (ad 4)] S [16, 356, 357, 358, 359, 165] (i_X7 S) 6 8220 := by
  refine Met.ofW (cc := cX7_init) (maxL := 1) (ret := none) (by decide +kernel) rfl ?_
  intro p e s m args below meth c s₁ B hml hv
  obtain ⟨rfl, hP, hD, hK, hz, hNl, hC, hB⟩ := hv
  have hx := B.exec
  have hb := B.bytes
  have hr := B.returns
  have hts := atoms_spec (ws := wsX7_init) B.pre
  have hown : s.vm.findClass RX7 = some m.cls := findClass_of_methodNamed B.named
  have hlocks := B.notSynchronized
  have hin : meth.name = "<init>" := (name_of_methodNamed B.named B.method).1
  have hi : ∀ w ∈ wsX70, w ∈ wsX7_init := fun w h => List.mem_cons_of_mem _ (List.mem_append_right _ h)
  have h0k : xo_kd 4 = 7 := by decide +kernel
  have G : gw_G D cs ad xo_kd xo_ln N S z0 s.heap s.heap [] := ⟨hP, hD, va_S.rf, hC, hB, hz⟩
  have hl := lv_entry ([.ref (ad 4)]) (n := 1) (Nat.le_of_ble_eq_true rfl)
  rw [lg_entry_eq]
  generalize (lg_sl ([.ref (ad 4)]) ++ List.replicate (1 - (lg_sl ([.ref (ad 4)])).length) Slot.unset).toArray = ls at hl ⊢
  have hl : lv_has ls 1 [(0, .ref (ad 4))] := hl
  refine lv_aload_n hx hb dX7_init_0 rfl (lv_at hl 0 rfl) ?_
  refine W.objInit hx hb hown (hts (.methodLink RX7 3 objectInit) (by decide +kernel)) (hts (.instanceMethod objectInit) (by decide +kernel)) (hts _ (List.mem_cons_of_mem _ (List.mem_append_left _ (List.mem_append_left _ (List.mem_of_getElem? (i := 2) rfl))))) rfl (by rw [hml]; exact hl.1) rfl dX7_init_1 (Nat.le_of_ble_eq_true rfl) (Nat.le_of_ble_eq_true rfl) ?_
  refine lv_aload_n hx hb dX7_init_4 rfl (lv_at hl 0 rfl) ?_
  refine gw_new (ci := 5) (Ts := wsX7_init) hx hb hts (fun w h => List.mem_cons_of_mem _ (List.mem_append_left _ (List.mem_append_right _ h))) tyX5 tyX5_ok hown (hts (.classLink RX7 9 RX5) (by decide +kernel)) (hts (.instantiable RX5 8) (by decide +kernel)) (hts (.initialized RX5) (by decide +kernel)) hK G (n := 16) (hL _ (by simp)) (by decide +kernel) (by decide) rfl rfl df_X5 (Nat.le_of_ble_eq_true rfl) (Nat.le_of_ble_eq_true rfl) dX7_init_5 (fun ad1 H a1 G => ?_)
  have A1 : ∀ y, y ∈ N → ad1 y = ad y := fun y hy => a1 y hy
  have G : gw_G D cs ad1 xo_kd xo_ln (N ++ [16]) _ z0 s.heap H _ := G
  refine lv_dup hx hb dX7_init_8 rfl ?_
  refine lv_bipush (v := 16) hx hb dX7_init_9 (by decide) ?_
  refine lv_bipush (v := 100) hx hb dX7_init_11 (by decide) ?_
  refine gw_call (As := [.int (16), .int (100)]) (rest := [.ref (ad1 16), .ref (ad 4)]) (b := (ad1 16)) (L := [356, 357, 358, 359]) ⟨hx, hb, hml, hown, hts⟩ hK hNl G (by rw [show ((ad1 16) : Nat) = ad1 16 from rfl.symm]; exact (ct_X516  (List.mem_append_right _ (by simp)) (fun x hx => gw_nin (hL x (by simp only [List.mem_cons, List.not_mem_nil, or_false] at hx ⊢; omega)) (by simp only [List.mem_cons, List.not_mem_nil, or_false] at hx ⊢; omega)))) (cwI 2 hts gX7_init_X5_init (rm := ({ frames := 1, cells := 4, slots := 196, locals := 12 } : Room)) (mc := 4) (ms := 196) rfl rfl rfl (hts (.initialized RX5) (by decide +kernel)) (hts (.methodLink RX7 11 yX5_init) (by decide +kernel)) (hts (.instanceMethod yX5_init) (by decide +kernel)) rfl (by decide +kernel) ⟨Nat.le_of_ble_eq_true rfl, Nat.le_of_ble_eq_true rfl⟩) rfl hl.1 rfl (Nat.le_of_ble_eq_true rfl) dX7_init_13 ⟨Nat.le_of_ble_eq_true rfl, Nat.le_of_ble_eq_true rfl⟩ (fun ad2 H locs a2 G => ?_)
  have A2 : ∀ y, y ∈ N → ad2 y = ad y := fun y hy => (a2 y (List.mem_append_left _ hy)).trans (A1 y hy)
  rw [List.append_assoc] at G
  have G : gw_G D cs ad2 xo_kd xo_ln (N ++ [16, 356, 357, 358, 359]) _ z0 s.heap H _ := G
  refine gw_putrF (n := 4) (r := 16) (k := 0) hx hb hown hin hK G (⟨RX7, TX7, 5, wsX7_init, tyX7, rfl, by decide, by decide, rfl, rfl, hts, hi, hts (.fieldLink RX7 14 "HillArms$Play" "line" "LHillArms$Line;") (by decide +kernel), tyX7_ok, nmX7, rfl, rfl, by decide +kernel⟩ : ha_FpF s ([.ref (ad 4)] : List Value).toArray RX7 14 7 0 1 (.object "HillArms$Line")) (List.mem_append_left _ h0) h0k (List.mem_append_right _ (by simp)) ((a2 _ (List.mem_append_left _ h0)).trans ((a1 _ h0).trans rfl)) ((a2 _ (List.mem_append_right _ (by simp))).trans rfl) rfl rfl dX7_init_16 (fun H locs G => ?_)
  refine lv_aload_n hx hb dX7_init_19 rfl (lv_at hl 0 rfl) ?_
  refine lv_sipush (v := 8016) hx hb dX7_init_20 (by decide) ?_
  refine gw_newi hx hb (hts (.arrayClass .int) (by decide +kernel)) hK G (n := 165) (L := 8016) (gw_nin (hL _ (by simp)) (by simp only [List.mem_cons, List.not_mem_nil, or_false]; omega)) (by decide +kernel) (by decide +kernel) (by decide +kernel) (by decide +kernel) (by decide) (Nat.le_of_ble_eq_true rfl) (Nat.le_of_ble_eq_true rfl) dX7_init_23 (fun ad3 H a3 G => ?_)
  have A3 : ∀ y, y ∈ N → ad3 y = ad y := fun y hy => (a3 y (List.mem_append_left _ hy)).trans (A2 y hy)
  rw [List.append_assoc] at G
  have G : gw_G D cs ad3 xo_kd xo_ln (N ++ [16, 356, 357, 358, 359, 165]) _ z0 s.heap H _ := G
  refine gw_putrF (n := 4) (r := 165) (k := 1) hx hb hown hin hK G (⟨RX7, TX7, 5, wsX7_init, tyX7, rfl, by decide, by decide, rfl, rfl, hts, hi, hts (.fieldLink RX7 20 "HillArms$Play" "signs" "[I") (by decide +kernel), tyX7_ok, nmX7, rfl, rfl, by decide +kernel⟩ : ha_FpF s ([.ref (ad 4)] : List Value).toArray RX7 20 7 1 1 (.array .int)) (List.mem_append_left _ h0) h0k (List.mem_append_right _ (by simp)) ((a3 _ (List.mem_append_left _ h0)).trans ((a2 _ (List.mem_append_left _ h0)).trans ((a1 _ h0).trans rfl))) rfl rfl rfl dX7_init_25 (fun H locs G => ?_)
  refine lv_aload_n hx hb dX7_init_28 rfl (lv_at hl 0 rfl) ?_
  refine lv_iconst (v := -1) hx hb dX7_init_29 (by decide) ?_
  refine gw_puti (n := 4) (k := 2) hx hb hown hK G (⟨RX7, TX7, 5, wsX7_init, tyX7, rfl, by decide, by decide, rfl, rfl, hts, hi, hts (.fieldLink RX7 24 "HillArms$Play" "ticks" "I") (by decide +kernel), tyX7_ok, nmX7, rfl, by decide +kernel⟩ : ha_Fp s ([.ref (ad 4)] : List Value).toArray RX7 24 7 2 0 .int) (List.mem_append_left _ h0) h0k ((a3 _ (List.mem_append_left _ h0)).trans ((a2 _ (List.mem_append_left _ h0)).trans ((a1 _ h0).trans rfl))) dX7_init_30 (fun H locs G => ?_)
  exact gw_ret hx hb hr hlocks A3 G rfl dX7_init_33

def i_X2 (S : ha_St) : ha_St := (ha_sI (ha_sR (ha_sB (ha_sR (ha_sR (ha_sR (ha_sR S 9 0 (some 244)) 9 1 (some 245)) 9 2 (some 246)) 9 3 (some 247)) 248 (fun i => if i < 17 then some (2000 + i) else none)) 9 4 (some 248)) 9 6 (-1))
theorem ct_X2 {l : Launch} {D : va_G} {cs : Nat → ClassId} {ad : Nat → Nat} {N : List Nat} {z0 : Nat} {S : ha_St} (h0 : 9 ∈ N) (hL : ∀ x, x ∈ ([244, 245, 246, 247, 248, 2000, 2001, 2002, 2003, 2004, 2005, 2006, 2007, 2008, 2009, 2010, 2011, 2012, 2013, 2014, 2015, 2016] : List Nat) → x ∉ N) : ct_Met l D cs ad xo_kd xo_ln N z0 yX2_init wsX2_init ({ frames := 1, cells := 22, slots := 546, locals := 12 } : Room) [.ref (ad 9)] S [244, 245, 246, 247, 248, 2000, 2001, 2002, 2003, 2004, 2005, 2006, 2007, 2008, 2009, 2010, 2011, 2012, 2013, 2014, 2015, 2016] (i_X2 S) 22 546 := by
  refine Met.ofW (cc := cX2_init) (maxL := 1) (ret := none) (by decide +kernel) rfl ?_
  intro p e s m args below meth c s₁ B hml hv
  obtain ⟨rfl, hP, hD, hK, hz, hNl, hC, hB⟩ := hv
  have hx := B.exec
  have hb := B.bytes
  have hr := B.returns
  have hts := atoms_spec (ws := wsX2_init) B.pre
  have hown : s.vm.findClass RX2 = some m.cls := findClass_of_methodNamed B.named
  have hlocks := B.notSynchronized
  have hin : meth.name = "<init>" := (name_of_methodNamed B.named B.method).1
  have hi : ∀ w ∈ wsX20, w ∈ wsX2_init := fun w h => List.mem_cons_of_mem _ (List.mem_append_right _ h)
  have h0k : xo_kd 9 = 2 := by decide +kernel
  have G : gw_G D cs ad xo_kd xo_ln N S z0 s.heap s.heap [] := ⟨hP, hD, va_S.rf, hC, hB, hz⟩
  have hl := lv_entry ([.ref (ad 9)]) (n := 1) (Nat.le_of_ble_eq_true rfl)
  rw [lg_entry_eq]
  generalize (lg_sl ([.ref (ad 9)]) ++ List.replicate (1 - (lg_sl ([.ref (ad 9)])).length) Slot.unset).toArray = ls at hl ⊢
  have hl : lv_has ls 1 [(0, .ref (ad 9))] := hl
  refine lv_aload_n hx hb dX2_init_0 rfl (lv_at hl 0 rfl) ?_
  refine W.objInit hx hb hown (hts (.methodLink RX2 3 objectInit) (by decide +kernel)) (hts (.instanceMethod objectInit) (by decide +kernel)) (hts _ (List.mem_cons_of_mem _ (List.mem_append_left _ (List.mem_of_getElem? (i := 2) rfl)))) rfl (by rw [hml]; exact hl.1) rfl dX2_init_1 (Nat.le_of_ble_eq_true rfl) (Nat.le_of_ble_eq_true rfl) ?_
  refine lv_aload_n hx hb dX2_init_4 rfl (lv_at hl 0 rfl) ?_
  refine lv_bipush (v := 60) hx hb dX2_init_5 (by decide) ?_
  refine gw_newi hx hb (hts (.arrayClass .int) (by decide +kernel)) hK G (n := 244) (L := 60) (hL _ (by simp)) (by decide +kernel) (by decide +kernel) (by decide +kernel) (by decide +kernel) (by decide) (Nat.le_of_ble_eq_true rfl) (Nat.le_of_ble_eq_true rfl) dX2_init_7 (fun ad1 H a1 G => ?_)
  have A1 : ∀ y, y ∈ N → ad1 y = ad y := fun y hy => a1 y hy
  have G : gw_G D cs ad1 xo_kd xo_ln (N ++ [244]) _ z0 s.heap H _ := G
  refine gw_putrF (n := 9) (r := 244) (k := 0) hx hb hown hin hK G (⟨RX2, TX2, 9, wsX2_init, tyX2, rfl, by decide, by decide, rfl, rfl, hts, hi, hts (.fieldLink RX2 9 "HillArms$Delays" "from" "[I") (by decide +kernel), tyX2_ok, nmX2, rfl, rfl, by decide +kernel⟩ : ha_FpF s ([.ref (ad 9)] : List Value).toArray RX2 9 2 0 1 (.array .int)) (List.mem_append_left _ h0) h0k (List.mem_append_right _ (by simp)) ((a1 _ h0).trans rfl) rfl rfl rfl dX2_init_9 (fun H locs G => ?_)
  refine lv_aload_n hx hb dX2_init_12 rfl (lv_at hl 0 rfl) ?_
  refine lv_bipush (v := 60) hx hb dX2_init_13 (by decide) ?_
  refine gw_newi hx hb (hts (.arrayClass .int) (by decide +kernel)) hK G (n := 245) (L := 60) (gw_nin (hL _ (by simp)) (by simp only [List.mem_cons, List.not_mem_nil, or_false]; omega)) (by decide +kernel) (by decide +kernel) (by decide +kernel) (by decide +kernel) (by decide) (Nat.le_of_ble_eq_true rfl) (Nat.le_of_ble_eq_true rfl) dX2_init_15 (fun ad2 H a2 G => ?_)
  have A2 : ∀ y, y ∈ N → ad2 y = ad y := fun y hy => (a2 y (List.mem_append_left _ hy)).trans (A1 y hy)
  rw [List.append_assoc] at G
  have G : gw_G D cs ad2 xo_kd xo_ln (N ++ [244, 245]) _ z0 s.heap H _ := G
  refine gw_putrF (n := 9) (r := 245) (k := 1) hx hb hown hin hK G (⟨RX2, TX2, 9, wsX2_init, tyX2, rfl, by decide, by decide, rfl, rfl, hts, hi, hts (.fieldLink RX2 15 "HillArms$Delays" "to" "[I") (by decide +kernel), tyX2_ok, nmX2, rfl, rfl, by decide +kernel⟩ : ha_FpF s ([.ref (ad 9)] : List Value).toArray RX2 15 2 1 1 (.array .int)) (List.mem_append_left _ h0) h0k (List.mem_append_right _ (by simp)) ((a2 _ (List.mem_append_left _ h0)).trans ((a1 _ h0).trans rfl)) rfl rfl rfl dX2_init_17 (fun H locs G => ?_)
  refine lv_aload_n hx hb dX2_init_20 rfl (lv_at hl 0 rfl) ?_
  refine lv_bipush (v := 60) hx hb dX2_init_21 (by decide) ?_
  refine gw_newi hx hb (hts (.arrayClass .int) (by decide +kernel)) hK G (n := 246) (L := 60) (gw_nin (hL _ (by simp)) (by simp only [List.mem_cons, List.not_mem_nil, or_false]; omega)) (by decide +kernel) (by decide +kernel) (by decide +kernel) (by decide +kernel) (by decide) (Nat.le_of_ble_eq_true rfl) (Nat.le_of_ble_eq_true rfl) dX2_init_23 (fun ad3 H a3 G => ?_)
  have A3 : ∀ y, y ∈ N → ad3 y = ad y := fun y hy => (a3 y (List.mem_append_left _ hy)).trans (A2 y hy)
  rw [List.append_assoc] at G
  have G : gw_G D cs ad3 xo_kd xo_ln (N ++ [244, 245, 246]) _ z0 s.heap H _ := G
  refine gw_putrF (n := 9) (r := 246) (k := 2) hx hb hown hin hK G (⟨RX2, TX2, 9, wsX2_init, tyX2, rfl, by decide, by decide, rfl, rfl, hts, hi, hts (.fieldLink RX2 18 "HillArms$Delays" "minutes" "[I") (by decide +kernel), tyX2_ok, nmX2, rfl, rfl, by decide +kernel⟩ : ha_FpF s ([.ref (ad 9)] : List Value).toArray RX2 18 2 2 1 (.array .int)) (List.mem_append_left _ h0) h0k (List.mem_append_right _ (by simp)) ((a3 _ (List.mem_append_left _ h0)).trans ((a2 _ (List.mem_append_left _ h0)).trans ((a1 _ h0).trans rfl))) rfl rfl rfl dX2_init_25 (fun H locs G => ?_)
  refine lv_aload_n hx hb dX2_init_28 rfl (lv_at hl 0 rfl) ?_
  refine lv_bipush (v := 60) hx hb dX2_init_29 (by decide) ?_
  refine gw_newi hx hb (hts (.arrayClass .int) (by decide +kernel)) hK G (n := 247) (L := 60) (gw_nin (hL _ (by simp)) (by simp only [List.mem_cons, List.not_mem_nil, or_false]; omega)) (by decide +kernel) (by decide +kernel) (by decide +kernel) (by decide +kernel) (by decide) (Nat.le_of_ble_eq_true rfl) (Nat.le_of_ble_eq_true rfl) dX2_init_31 (fun ad4 H a4 G => ?_)
  have A4 : ∀ y, y ∈ N → ad4 y = ad y := fun y hy => (a4 y (List.mem_append_left _ hy)).trans (A3 y hy)
  rw [List.append_assoc] at G
  have G : gw_G D cs ad4 xo_kd xo_ln (N ++ [244, 245, 246, 247]) _ z0 s.heap H _ := G
  refine gw_putrF (n := 9) (r := 247) (k := 3) hx hb hown hin hK G (⟨RX2, TX2, 9, wsX2_init, tyX2, rfl, by decide, by decide, rfl, rfl, hts, hi, hts (.fieldLink RX2 21 "HillArms$Delays" "day" "[I") (by decide +kernel), tyX2_ok, nmX2, rfl, rfl, by decide +kernel⟩ : ha_FpF s ([.ref (ad 9)] : List Value).toArray RX2 21 2 3 1 (.array .int)) (List.mem_append_left _ h0) h0k (List.mem_append_right _ (by simp)) ((a4 _ (List.mem_append_left _ h0)).trans ((a3 _ (List.mem_append_left _ h0)).trans ((a2 _ (List.mem_append_left _ h0)).trans ((a1 _ h0).trans rfl)))) rfl rfl rfl dX2_init_33 (fun H locs G => ?_)
  refine lv_aload_n hx hb dX2_init_36 rfl (lv_at hl 0 rfl) ?_
  refine lv_bipush (v := 17) hx hb dX2_init_37 (by decide) ?_
  refine lv_bipush (v := 17) hx hb dX2_init_39 (by decide) ?_
  refine gw_mna hx hb hown (hts (.classLink RX2 24 "[[I") (by decide +kernel)) hNl.2.2.2.2.2.2.2.2.2.2 (hts (.arrayClass .int) (by decide +kernel)) hK G (gw_nin (hL _ (by simp)) (by simp only [List.mem_cons, List.not_mem_nil, or_false]; omega)) (fun i hi => gw_nin (hL _ (by simp; omega)) (by simp; omega)) (by decide +kernel) (by decide +kernel) (by decide +kernel) (by decide +kernel) (Nat.le_of_ble_eq_true rfl) (Nat.le_of_ble_eq_true rfl) dX2_init_41 (fun ad5 H a5 G => ?_)
  have A5 : ∀ y, y ∈ N → ad5 y = ad y := fun y hy => (a5 y (List.mem_append_left _ hy)).trans (A4 y hy)
  rw [List.append_assoc] at G
  have G : gw_G D cs ad5 xo_kd xo_ln (N ++ [244, 245, 246, 247, 248, 2000, 2001, 2002, 2003, 2004, 2005, 2006, 2007, 2008, 2009, 2010, 2011, 2012, 2013, 2014, 2015, 2016]) _ z0 s.heap H _ := G
  refine gw_putrF (n := 9) (r := 248) (k := 4) hx hb hown hin hK G (⟨RX2, TX2, 9, wsX2_init, tyX2, rfl, by decide, by decide, rfl, rfl, hts, hi, hts (.fieldLink RX2 26 "HillArms$Delays" "most" "[[I") (by decide +kernel), tyX2_ok, nmX2, rfl, rfl, by decide +kernel⟩ : ha_FpF s ([.ref (ad 9)] : List Value).toArray RX2 26 2 4 1 (.array (.array .int))) (List.mem_append_left _ h0) h0k (List.mem_append_right _ (by simp)) ((a5 _ (List.mem_append_left _ h0)).trans ((a4 _ (List.mem_append_left _ h0)).trans ((a3 _ (List.mem_append_left _ h0)).trans ((a2 _ (List.mem_append_left _ h0)).trans ((a1 _ h0).trans rfl))))) rfl rfl rfl dX2_init_45 (fun H locs G => ?_)
  refine lv_aload_n hx hb dX2_init_48 rfl (lv_at hl 0 rfl) ?_
  refine lv_iconst (v := -1) hx hb dX2_init_49 (by decide) ?_
  refine gw_puti (n := 9) (k := 6) hx hb hown hK G (⟨RX2, TX2, 9, wsX2_init, tyX2, rfl, by decide, by decide, rfl, rfl, hts, hi, hts (.fieldLink RX2 29 "HillArms$Delays" "weighed" "I") (by decide +kernel), tyX2_ok, nmX2, rfl, by decide +kernel⟩ : ha_Fp s ([.ref (ad 9)] : List Value).toArray RX2 29 2 6 0 .int) (List.mem_append_left _ h0) h0k ((a5 _ (List.mem_append_left _ h0)).trans ((a4 _ (List.mem_append_left _ h0)).trans ((a3 _ (List.mem_append_left _ h0)).trans ((a2 _ (List.mem_append_left _ h0)).trans ((a1 _ h0).trans rfl))))) dX2_init_50 (fun H locs G => ?_)
  exact gw_ret hx hb hr hlocks A5 G rfl dX2_init_53

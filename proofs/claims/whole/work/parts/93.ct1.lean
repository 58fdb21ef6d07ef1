/-! THE SMALL CONSTRUCTORS -/
theorem df_X0 : ∀ j, j < 11 → defaultValue (tyX0 j) = (if ha_fc 0 j = 0 then .int 0 else if ha_fc 0 j = 1 then .null else .long 0) := fun j hj => by
  rcases (show j = 0 ∨ j = 1 ∨ j = 2 ∨ j = 3 ∨ j = 4 ∨ j = 5 ∨ j = 6 ∨ j = 7 ∨ j = 8 ∨ j = 9 ∨ j = 10 by omega) with rfl | rfl | rfl | rfl | rfl | rfl | rfl | rfl | rfl | rfl | rfl <;> rfl
theorem df_X1 : ∀ j, j < 8 → defaultValue (tyX1 j) = (if ha_fc 1 j = 0 then .int 0 else if ha_fc 1 j = 1 then .null else .long 0) := fun j hj => by
  rcases (show j = 0 ∨ j = 1 ∨ j = 2 ∨ j = 3 ∨ j = 4 ∨ j = 5 ∨ j = 6 ∨ j = 7 by omega) with rfl | rfl | rfl | rfl | rfl | rfl | rfl | rfl <;> rfl
theorem df_X2 : ∀ j, j < 9 → defaultValue (tyX2 j) = (if ha_fc 2 j = 0 then .int 0 else if ha_fc 2 j = 1 then .null else .long 0) := fun j hj => by
  rcases (show j = 0 ∨ j = 1 ∨ j = 2 ∨ j = 3 ∨ j = 4 ∨ j = 5 ∨ j = 6 ∨ j = 7 ∨ j = 8 by omega) with rfl | rfl | rfl | rfl | rfl | rfl | rfl | rfl | rfl <;> rfl
theorem df_X3 : ∀ j, j < 4 → defaultValue (tyX3 j) = (if ha_fc 3 j = 0 then .int 0 else if ha_fc 3 j = 1 then .null else .long 0) := fun j hj => by
  rcases (show j = 0 ∨ j = 1 ∨ j = 2 ∨ j = 3 by omega) with rfl | rfl | rfl | rfl <;> rfl
theorem df_X4 : ∀ j, j < 3 → defaultValue (tyX4 j) = (if ha_fc 4 j = 0 then .int 0 else if ha_fc 4 j = 1 then .null else .long 0) := fun j hj => by
  rcases (show j = 0 ∨ j = 1 ∨ j = 2 by omega) with rfl | rfl | rfl <;> rfl
theorem df_X5 : ∀ j, j < 8 → defaultValue (tyX5 j) = (if ha_fc 5 j = 0 then .int 0 else if ha_fc 5 j = 1 then .null else .long 0) := fun j hj => by
  rcases (show j = 0 ∨ j = 1 ∨ j = 2 ∨ j = 3 ∨ j = 4 ∨ j = 5 ∨ j = 6 ∨ j = 7 by omega) with rfl | rfl | rfl | rfl | rfl | rfl | rfl | rfl <;> rfl
theorem df_X6 : ∀ j, j < 8 → defaultValue (tyX6 j) = (if ha_fc 6 j = 0 then .int 0 else if ha_fc 6 j = 1 then .null else .long 0) := fun j hj => by
  rcases (show j = 0 ∨ j = 1 ∨ j = 2 ∨ j = 3 ∨ j = 4 ∨ j = 5 ∨ j = 6 ∨ j = 7 by omega) with rfl | rfl | rfl | rfl | rfl | rfl | rfl | rfl <;> rfl
theorem df_X7 : ∀ j, j < 5 → defaultValue (tyX7 j) = (if ha_fc 7 j = 0 then .int 0 else if ha_fc 7 j = 1 then .null else .long 0) := fun j hj => by
  rcases (show j = 0 ∨ j = 1 ∨ j = 2 ∨ j = 3 ∨ j = 4 by omega) with rfl | rfl | rfl | rfl | rfl <;> rfl
theorem df_X8 : ∀ j, j < 12 → defaultValue (tyX8 j) = (if ha_fc 8 j = 0 then .int 0 else if ha_fc 8 j = 1 then .null else .long 0) := fun j hj => by
  rcases (show j = 0 ∨ j = 1 ∨ j = 2 ∨ j = 3 ∨ j = 4 ∨ j = 5 ∨ j = 6 ∨ j = 7 ∨ j = 8 ∨ j = 9 ∨ j = 10 ∨ j = 11 by omega) with rfl | rfl | rfl | rfl | rfl | rfl | rfl | rfl | rfl | rfl | rfl | rfl <;> rfl
theorem df_X9 : ∀ j, j < 8 → defaultValue (tyX9 j) = (if ha_fc 9 j = 0 then .int 0 else if ha_fc 9 j = 1 then .null else .long 0) := fun j hj => by
  rcases (show j = 0 ∨ j = 1 ∨ j = 2 ∨ j = 3 ∨ j = 4 ∨ j = 5 ∨ j = 6 ∨ j = 7 by omega) with rfl | rfl | rfl | rfl | rfl | rfl | rfl | rfl <;> rfl
theorem df_X10 : ∀ j, j < 2 → defaultValue (tyX10 j) = (if ha_fc 10 j = 0 then .int 0 else if ha_fc 10 j = 1 then .null else .long 0) := fun j hj => by
  rcases (show j = 0 ∨ j = 1 by omega) with rfl | rfl <;> rfl
theorem df_X11 : ∀ j, j < 17 → defaultValue (tyX11 j) = (if ha_fc 11 j = 0 then .int 0 else if ha_fc 11 j = 1 then .null else .long 0) := fun j hj => by
  rcases (show j = 0 ∨ j = 1 ∨ j = 2 ∨ j = 3 ∨ j = 4 ∨ j = 5 ∨ j = 6 ∨ j = 7 ∨ j = 8 ∨ j = 9 ∨ j = 10 ∨ j = 11 ∨ j = 12 ∨ j = 13 ∨ j = 14 ∨ j = 15 ∨ j = 16 by omega) with rfl | rfl | rfl | rfl | rfl | rfl | rfl | rfl | rfl | rfl | rfl | rfl | rfl | rfl | rfl | rfl | rfl <;> rfl
theorem df_X12 : ∀ j, j < 83 → defaultValue (tyX12 j) = (if ha_fc 12 j = 0 then .int 0 else if ha_fc 12 j = 1 then .null else .long 0) := fun j hj => by
  rcases (show j = 0 ∨ j = 1 ∨ j = 2 ∨ j = 3 ∨ j = 4 ∨ j = 5 ∨ j = 6 ∨ j = 7 ∨ j = 8 ∨ j = 9 ∨ j = 10 ∨ j = 11 ∨ j = 12 ∨ j = 13 ∨ j = 14 ∨ j = 15 ∨ j = 16 ∨ j = 17 ∨ j = 18 ∨ j = 19 ∨ j = 20 ∨ j = 21 ∨ j = 22 ∨ j = 23 ∨ j = 24 ∨ j = 25 ∨ j = 26 ∨ j = 27 ∨ j = 28 ∨ j = 29 ∨ j = 30 ∨ j = 31 ∨ j = 32 ∨ j = 33 ∨ j = 34 ∨ j = 35 ∨ j = 36 ∨ j = 37 ∨ j = 38 ∨ j = 39 ∨ j = 40 ∨ j = 41 ∨ j = 42 ∨ j = 43 ∨ j = 44 ∨ j = 45 ∨ j = 46 ∨ j = 47 ∨ j = 48 ∨ j = 49 ∨ j = 50 ∨ j = 51 ∨ j = 52 ∨ j = 53 ∨ j = 54 ∨ j = 55 ∨ j = 56 ∨ j = 57 ∨ j = 58 ∨ j = 59 ∨ j = 60 ∨ j = 61 ∨ j = 62 ∨ j = 63 ∨ j = 64 ∨ j = 65 ∨ j = 66 ∨ j = 67 ∨ j = 68 ∨ j = 69 ∨ j = 70 ∨ j = 71 ∨ j = 72 ∨ j = 73 ∨ j = 74 ∨ j = 75 ∨ j = 76 ∨ j = 77 ∨ j = 78 ∨ j = 79 ∨ j = 80 ∨ j = 81 ∨ j = 82 by omega) with rfl | rfl | rfl | rfl | rfl | rfl | rfl | rfl | rfl | rfl | rfl | rfl | rfl | rfl | rfl | rfl | rfl | rfl | rfl | rfl | rfl | rfl | rfl | rfl | rfl | rfl | rfl | rfl | rfl | rfl | rfl | rfl | rfl | rfl | rfl | rfl | rfl | rfl | rfl | rfl | rfl | rfl | rfl | rfl | rfl | rfl | rfl | rfl | rfl | rfl | rfl | rfl | rfl | rfl | rfl | rfl | rfl | rfl | rfl | rfl | rfl | rfl | rfl | rfl | rfl | rfl | rfl | rfl | rfl | rfl | rfl | rfl | rfl | rfl | rfl | rfl | rfl | rfl | rfl | rfl | rfl | rfl | rfl <;> rfl
def i_X10 (S : ha_St) : ha_St := (ha_sR S 1 0 (some 116))
theorem ct_X10 {l : Launch} {D : va_G} {cs : Nat → ClassId} {ad : Nat → Nat} {N : List Nat} {z0 : Nat} {S : ha_St} (h0 : 1 ∈ N) (hL : ∀ x, x ∈ ([116] : List Nat) → x ∉ N) : ct_Met l D cs ad xo_kd xo_ln N z0 yX10_init wsX10_init ({ frames := 1, cells := 1, slots := 440, locals := 12 } : Room) [.ref (ad 1)] S [116] (i_X10 S) 1 440 := by
  refine Met.ofW (cc := cX10_init) (maxL := 1) (ret := none) (by decide +kernel) rfl ?_
  intro p e s m args below meth c s₁ B hml hv
  obtain ⟨rfl, hP, hD, hK, hz, hNl, hC, hB⟩ := hv
  have hx := B.exec
  have hb := B.bytes
  have hr := B.returns
  have hts := atoms_spec (ws := wsX10_init) B.pre
  have hown : s.vm.findClass RX10 = some m.cls := findClass_of_methodNamed B.named
  have hlocks := B.notSynchronized
  have hin : meth.name = "<init>" := (name_of_methodNamed B.named B.method).1
  have hi : ∀ w ∈ wsX100, w ∈ wsX10_init := fun w h => List.mem_cons_of_mem _ (List.mem_append_right _ h)
  have h0k : xo_kd 1 = 10 := by decide +kernel
  have G : gw_G D cs ad xo_kd xo_ln N S z0 s.heap s.heap [] := ⟨hP, hD, va_S.rf, hC, hB, hz⟩
  have hl := lv_entry ([.ref (ad 1)]) (n := 1) (Nat.le_of_ble_eq_true rfl)
  rw [lg_entry_eq]
  generalize (lg_sl ([.ref (ad 1)]) ++ List.replicate (1 - (lg_sl ([.ref (ad 1)])).length) Slot.unset).toArray = ls at hl ⊢
  have hl : lv_has ls 1 [(0, .ref (ad 1))] := hl
  refine lv_aload_n hx hb dX10_init_0 rfl (lv_at hl 0 rfl) ?_
  refine W.objInit hx hb hown (hts (.methodLink RX10 3 objectInit) (by decide +kernel)) (hts (.instanceMethod objectInit) (by decide +kernel)) (hts _ (List.mem_cons_of_mem _ (List.mem_append_left _ (List.mem_of_getElem? (i := 2) rfl)))) rfl (by rw [hml]; exact hl.1) rfl dX10_init_1 (Nat.le_of_ble_eq_true rfl) (Nat.le_of_ble_eq_true rfl) ?_
  refine lv_aload_n hx hb dX10_init_4 rfl (lv_at hl 0 rfl) ?_
  refine lv_sipush (v := 440) hx hb dX10_init_5 (by decide) ?_
  refine gw_newi hx hb (hts (.arrayClass .int) (by decide +kernel)) hK G (n := 116) (L := 440) (hL _ (by simp)) (by decide +kernel) (by decide +kernel) (by decide +kernel) (by decide +kernel) (by decide) (Nat.le_of_ble_eq_true rfl) (Nat.le_of_ble_eq_true rfl) dX10_init_8 (fun ad1 H a1 G => ?_)
  have A1 : ∀ y, y ∈ N → ad1 y = ad y := fun y hy => a1 y hy
  have G : gw_G D cs ad1 xo_kd xo_ln (N ++ [116]) _ z0 s.heap H _ := G
  refine gw_putrF (n := 1) (r := 116) (k := 0) hx hb hown hin hK G (⟨RX10, TX10, 2, wsX10_init, tyX10, rfl, by decide, by decide, rfl, rfl, hts, hi, hts (.fieldLink RX10 9 "HillArms$Tape" "bytes" "[I") (by decide +kernel), tyX10_ok, nmX10, rfl, rfl, by decide +kernel⟩ : ha_FpF s ([.ref (ad 1)] : List Value).toArray RX10 9 10 0 1 (.array .int)) (List.mem_append_left _ h0) h0k (List.mem_append_right _ (by simp)) ((a1 _ h0).trans rfl) rfl rfl rfl dX10_init_10 (fun H locs G => ?_)
  exact gw_ret hx hb hr hlocks A1 G rfl dX10_init_13

def i_X3 (S : ha_St) : ha_St := (ha_sR (ha_sR (ha_sR S 6 0 (some 196)) 6 1 (some 197)) 6 2 (some 198))
theorem ct_X3 {l : Launch} {D : va_G} {cs : Nat → ClassId} {ad : Nat → Nat} {N : List Nat} {z0 : Nat} {S : ha_St} (h0 : 6 ∈ N) (hL : ∀ x, x ∈ ([196, 197, 198] : List Nat) → x ∉ N) : ct_Met l D cs ad xo_kd xo_ln N z0 yX3_init wsX3_init ({ frames := 1, cells := 3, slots := 168, locals := 12 } : Room) [.ref (ad 6)] S [196, 197, 198] (i_X3 S) 3 168 := by
  refine Met.ofW (cc := cX3_init) (maxL := 1) (ret := none) (by decide +kernel) rfl ?_
  intro p e s m args below meth c s₁ B hml hv
  obtain ⟨rfl, hP, hD, hK, hz, hNl, hC, hB⟩ := hv
  have hx := B.exec
  have hb := B.bytes
  have hr := B.returns
  have hts := atoms_spec (ws := wsX3_init) B.pre
  have hown : s.vm.findClass RX3 = some m.cls := findClass_of_methodNamed B.named
  have hlocks := B.notSynchronized
  have hin : meth.name = "<init>" := (name_of_methodNamed B.named B.method).1
  have hi : ∀ w ∈ wsX30, w ∈ wsX3_init := fun w h => List.mem_cons_of_mem _ (List.mem_append_right _ h)
  have h0k : xo_kd 6 = 3 := by decide +kernel
  have G : gw_G D cs ad xo_kd xo_ln N S z0 s.heap s.heap [] := ⟨hP, hD, va_S.rf, hC, hB, hz⟩
  have hl := lv_entry ([.ref (ad 6)]) (n := 1) (Nat.le_of_ble_eq_true rfl)
  rw [lg_entry_eq]
  generalize (lg_sl ([.ref (ad 6)]) ++ List.replicate (1 - (lg_sl ([.ref (ad 6)])).length) Slot.unset).toArray = ls at hl ⊢
  have hl : lv_has ls 1 [(0, .ref (ad 6))] := hl
  refine lv_aload_n hx hb dX3_init_0 rfl (lv_at hl 0 rfl) ?_
  refine W.objInit hx hb hown (hts (.methodLink RX3 3 objectInit) (by decide +kernel)) (hts (.instanceMethod objectInit) (by decide +kernel)) (hts _ (List.mem_cons_of_mem _ (List.mem_append_left _ (List.mem_of_getElem? (i := 2) rfl)))) rfl (by rw [hml]; exact hl.1) rfl dX3_init_1 (Nat.le_of_ble_eq_true rfl) (Nat.le_of_ble_eq_true rfl) ?_
  refine lv_aload_n hx hb dX3_init_4 rfl (lv_at hl 0 rfl) ?_
  refine lv_sipush (v := 144) hx hb dX3_init_5 (by decide) ?_
  refine gw_newi hx hb (hts (.arrayClass .int) (by decide +kernel)) hK G (n := 196) (L := 144) (hL _ (by simp)) (by decide +kernel) (by decide +kernel) (by decide +kernel) (by decide +kernel) (by decide) (Nat.le_of_ble_eq_true rfl) (Nat.le_of_ble_eq_true rfl) dX3_init_8 (fun ad1 H a1 G => ?_)
  have A1 : ∀ y, y ∈ N → ad1 y = ad y := fun y hy => a1 y hy
  have G : gw_G D cs ad1 xo_kd xo_ln (N ++ [196]) _ z0 s.heap H _ := G
  refine gw_putrF (n := 6) (r := 196) (k := 0) hx hb hown hin hK G (⟨RX3, TX3, 4, wsX3_init, tyX3, rfl, by decide, by decide, rfl, rfl, hts, hi, hts (.fieldLink RX3 9 "HillArms$Entries" "bytes" "[I") (by decide +kernel), tyX3_ok, nmX3, rfl, rfl, by decide +kernel⟩ : ha_FpF s ([.ref (ad 6)] : List Value).toArray RX3 9 3 0 1 (.array .int)) (List.mem_append_left _ h0) h0k (List.mem_append_right _ (by simp)) ((a1 _ h0).trans rfl) rfl rfl rfl dX3_init_10 (fun H locs G => ?_)
  refine lv_aload_n hx hb dX3_init_13 rfl (lv_at hl 0 rfl) ?_
  refine lv_bipush (v := 12) hx hb dX3_init_14 (by decide) ?_
  refine gw_newi hx hb (hts (.arrayClass .int) (by decide +kernel)) hK G (n := 197) (L := 12) (gw_nin (hL _ (by simp)) (by simp only [List.mem_cons, List.not_mem_nil, or_false]; omega)) (by decide +kernel) (by decide +kernel) (by decide +kernel) (by decide +kernel) (by decide) (Nat.le_of_ble_eq_true rfl) (Nat.le_of_ble_eq_true rfl) dX3_init_16 (fun ad2 H a2 G => ?_)
  have A2 : ∀ y, y ∈ N → ad2 y = ad y := fun y hy => (a2 y (List.mem_append_left _ hy)).trans (A1 y hy)
  rw [List.append_assoc] at G
  have G : gw_G D cs ad2 xo_kd xo_ln (N ++ [196, 197]) _ z0 s.heap H _ := G
  refine gw_putrF (n := 6) (r := 197) (k := 1) hx hb hown hin hK G (⟨RX3, TX3, 4, wsX3_init, tyX3, rfl, by decide, by decide, rfl, rfl, hts, hi, hts (.fieldLink RX3 15 "HillArms$Entries" "length" "[I") (by decide +kernel), tyX3_ok, nmX3, rfl, rfl, by decide +kernel⟩ : ha_FpF s ([.ref (ad 6)] : List Value).toArray RX3 15 3 1 1 (.array .int)) (List.mem_append_left _ h0) h0k (List.mem_append_right _ (by simp)) ((a2 _ (List.mem_append_left _ h0)).trans ((a1 _ h0).trans rfl)) rfl rfl rfl dX3_init_18 (fun H locs G => ?_)
  refine lv_aload_n hx hb dX3_init_21 rfl (lv_at hl 0 rfl) ?_
  refine lv_bipush (v := 12) hx hb dX3_init_22 (by decide) ?_
  refine gw_newi hx hb (hts (.arrayClass .int) (by decide +kernel)) hK G (n := 198) (L := 12) (gw_nin (hL _ (by simp)) (by simp only [List.mem_cons, List.not_mem_nil, or_false]; omega)) (by decide +kernel) (by decide +kernel) (by decide +kernel) (by decide +kernel) (by decide) (Nat.le_of_ble_eq_true rfl) (Nat.le_of_ble_eq_true rfl) dX3_init_24 (fun ad3 H a3 G => ?_)
  have A3 : ∀ y, y ∈ N → ad3 y = ad y := fun y hy => (a3 y (List.mem_append_left _ hy)).trans (A2 y hy)
  rw [List.append_assoc] at G
  have G : gw_G D cs ad3 xo_kd xo_ln (N ++ [196, 197, 198]) _ z0 s.heap H _ := G
  refine gw_putrF (n := 6) (r := 198) (k := 2) hx hb hown hin hK G (⟨RX3, TX3, 4, wsX3_init, tyX3, rfl, by decide, by decide, rfl, rfl, hts, hi, hts (.fieldLink RX3 18 "HillArms$Entries" "words" "[I") (by decide +kernel), tyX3_ok, nmX3, rfl, rfl, by decide +kernel⟩ : ha_FpF s ([.ref (ad 6)] : List Value).toArray RX3 18 3 2 1 (.array .int)) (List.mem_append_left _ h0) h0k (List.mem_append_right _ (by simp)) ((a3 _ (List.mem_append_left _ h0)).trans ((a2 _ (List.mem_append_left _ h0)).trans ((a1 _ h0).trans rfl))) rfl rfl rfl dX3_init_26 (fun H locs G => ?_)
  exact gw_ret hx hb hr hlocks A3 G rfl dX3_init_29

def i_X4 (S : ha_St) : ha_St := (ha_sR S 10 0 (some 260))
theorem ct_X4 {l : Launch} {D : va_G} {cs : Nat → ClassId} {ad : Nat → Nat} {N : List Nat} {z0 : Nat} {S : ha_St} (h0 : 10 ∈ N) (hL : ∀ x, x ∈ ([260] : List Nat) → x ∉ N) : ct_Met l D cs ad xo_kd xo_ln N z0 yX4_init wsX4_init ({ frames := 1, cells := 1, slots := 112, locals := 12 } : Room) [.ref (ad 10)] S [260] (i_X4 S) 1 112 := by
  refine Met.ofW (cc := cX4_init) (maxL := 1) (ret := none) (by decide +kernel) rfl ?_
  intro p e s m args below meth c s₁ B hml hv
  obtain ⟨rfl, hP, hD, hK, hz, hNl, hC, hB⟩ := hv
  have hx := B.exec
  have hb := B.bytes
  have hr := B.returns
  have hts := atoms_spec (ws := wsX4_init) B.pre
  have hown : s.vm.findClass RX4 = some m.cls := findClass_of_methodNamed B.named
  have hlocks := B.notSynchronized
  have hin : meth.name = "<init>" := (name_of_methodNamed B.named B.method).1
  have hi : ∀ w ∈ wsX40, w ∈ wsX4_init := fun w h => List.mem_cons_of_mem _ (List.mem_append_right _ h)
  have h0k : xo_kd 10 = 4 := by decide +kernel
  have G : gw_G D cs ad xo_kd xo_ln N S z0 s.heap s.heap [] := ⟨hP, hD, va_S.rf, hC, hB, hz⟩
  have hl := lv_entry ([.ref (ad 10)]) (n := 1) (Nat.le_of_ble_eq_true rfl)
  rw [lg_entry_eq]
  generalize (lg_sl ([.ref (ad 10)]) ++ List.replicate (1 - (lg_sl ([.ref (ad 10)])).length) Slot.unset).toArray = ls at hl ⊢
  have hl : lv_has ls 1 [(0, .ref (ad 10))] := hl
  refine lv_aload_n hx hb dX4_init_0 rfl (lv_at hl 0 rfl) ?_
  refine W.objInit hx hb hown (hts (.methodLink RX4 3 objectInit) (by decide +kernel)) (hts (.instanceMethod objectInit) (by decide +kernel)) (hts _ (List.mem_cons_of_mem _ (List.mem_append_left _ (List.mem_of_getElem? (i := 2) rfl)))) rfl (by rw [hml]; exact hl.1) rfl dX4_init_1 (Nat.le_of_ble_eq_true rfl) (Nat.le_of_ble_eq_true rfl) ?_
  refine lv_aload_n hx hb dX4_init_4 rfl (lv_at hl 0 rfl) ?_
  refine lv_bipush (v := 112) hx hb dX4_init_5 (by decide) ?_
  refine gw_newi hx hb (hts (.arrayClass .int) (by decide +kernel)) hK G (n := 260) (L := 112) (hL _ (by simp)) (by decide +kernel) (by decide +kernel) (by decide +kernel) (by decide +kernel) (by decide) (Nat.le_of_ble_eq_true rfl) (Nat.le_of_ble_eq_true rfl) dX4_init_7 (fun ad1 H a1 G => ?_)
  have A1 : ∀ y, y ∈ N → ad1 y = ad y := fun y hy => a1 y hy
  have G : gw_G D cs ad1 xo_kd xo_ln (N ++ [260]) _ z0 s.heap H _ := G
  refine gw_putrF (n := 10) (r := 260) (k := 0) hx hb hown hin hK G (⟨RX4, TX4, 3, wsX4_init, tyX4, rfl, by decide, by decide, rfl, rfl, hts, hi, hts (.fieldLink RX4 9 "HillArms$HillDays" "seen" "[I") (by decide +kernel), tyX4_ok, nmX4, rfl, rfl, by decide +kernel⟩ : ha_FpF s ([.ref (ad 10)] : List Value).toArray RX4 9 4 0 1 (.array .int)) (List.mem_append_left _ h0) h0k (List.mem_append_right _ (by simp)) ((a1 _ h0).trans rfl) rfl rfl rfl dX4_init_9 (fun H locs G => ?_)
  exact gw_ret hx hb hr hlocks A1 G rfl dX4_init_12

def i_X8 (p0 : Nat) (S : ha_St) : ha_St := (ha_sR (ha_sR (ha_sR (ha_sR (ha_sR (ha_sR (ha_sR (ha_sR S p0 0 (some ((100 + 16 * p0 + 0)))) p0 1 (some ((100 + 16 * p0 + 1)))) p0 2 (some ((100 + 16 * p0 + 2)))) p0 3 (some ((100 + 16 * p0 + 3)))) p0 4 (some ((100 + 16 * p0 + 4)))) p0 5 (some ((100 + 16 * p0 + 5)))) p0 6 (some ((100 + 16 * p0 + 6)))) p0 7 (some ((100 + 16 * p0 + 7))))
theorem ct_X8 {l : Launch} {D : va_G} {cs : Nat → ClassId} {ad : Nat → Nat} {N : List Nat} {z0 : Nat} {S : ha_St} {p0 : Nat} (hp1 : 11 ≤ p0) (hp2 : p0 ≤ 15) (h0 : p0 ∈ N) (hL : ∀ x, x ∈ ([(100 + 16 * p0 + 0), (100 + 16 * p0 + 1), (100 + 16 * p0 + 2), (100 + 16 * p0 + 3), (100 + 16 * p0 + 4), (100 + 16 * p0 + 5), (100 + 16 * p0 + 6), (100 + 16 * p0 + 7)] : List Nat) → x ∉ N) : ct_Met l D cs ad xo_kd xo_ln N z0 yX8_init wsX8_init ({ frames := 1, cells := 8, slots := 280, locals := 12 } : Room) [.ref (ad p0)] S [(100 + 16 * p0 + 0), (100 + 16 * p0 + 1), (100 + 16 * p0 + 2), (100 + 16 * p0 + 3), (100 + 16 * p0 + 4), (100 + 16 * p0 + 5), (100 + 16 * p0 + 6), (100 + 16 * p0 + 7)] (i_X8 p0 S) 8 280 := by
  refine Met.ofW (cc := cX8_init) (maxL := 1) (ret := none) (by decide +kernel) rfl ?_
  intro p e s m args below meth c s₁ B hml hv
  obtain ⟨rfl, hP, hD, hK, hz, hNl, hC, hB⟩ := hv
  have hx := B.exec
  have hb := B.bytes
  have hr := B.returns
  have hts := atoms_spec (ws := wsX8_init) B.pre
  have hown : s.vm.findClass RX8 = some m.cls := findClass_of_methodNamed B.named
  have hlocks := B.notSynchronized
  have hin : meth.name = "<init>" := (name_of_methodNamed B.named B.method).1
  have hi : ∀ w ∈ wsX80, w ∈ wsX8_init := fun w h => List.mem_cons_of_mem _ (List.mem_append_right _ h)
  have h0k : xo_kd p0 = 8 := (pg_tab p0 (by omega) hp1).1
  have G : gw_G D cs ad xo_kd xo_ln N S z0 s.heap s.heap [] := ⟨hP, hD, va_S.rf, hC, hB, hz⟩
  have hl := lv_entry ([.ref (ad p0)]) (n := 1) (Nat.le_of_ble_eq_true rfl)
  rw [lg_entry_eq]
  generalize (lg_sl ([.ref (ad p0)]) ++ List.replicate (1 - (lg_sl ([.ref (ad p0)])).length) Slot.unset).toArray = ls at hl ⊢
  have hl : lv_has ls 1 [(0, .ref (ad p0))] := hl
  refine lv_aload_n hx hb dX8_init_0 rfl (lv_at hl 0 rfl) ?_
  refine W.objInit hx hb hown (hts (.methodLink RX8 3 objectInit) (by decide +kernel)) (hts (.instanceMethod objectInit) (by decide +kernel)) (hts _ (List.mem_cons_of_mem _ (List.mem_append_left _ (List.mem_of_getElem? (i := 2) rfl)))) rfl (by rw [hml]; exact hl.1) rfl dX8_init_1 (Nat.le_of_ble_eq_true rfl) (Nat.le_of_ble_eq_true rfl) ?_
  refine lv_aload_n hx hb dX8_init_4 rfl (lv_at hl 0 rfl) ?_
  refine lv_bipush (v := 20) hx hb dX8_init_5 (by decide) ?_
  refine gw_newi hx hb (hts (.arrayClass .int) (by decide +kernel)) hK G (n := (100 + 16 * p0 + 0)) (L := 20) (hL _ (by simp)) (((pg_tab p0 (by omega) hp1).2 0 (by omega)).2.1) ((pgl hp1 hp2 0 (by omega)).trans (by decide)) (by decide +kernel) (by decide +kernel) (by decide) (Nat.le_of_ble_eq_true rfl) (Nat.le_of_ble_eq_true rfl) dX8_init_7 (fun ad1 H a1 G => ?_)
  have A1 : ∀ y, y ∈ N → ad1 y = ad y := fun y hy => a1 y hy
  have G : gw_G D cs ad1 xo_kd xo_ln (N ++ [(100 + 16 * p0 + 0)]) _ z0 s.heap H _ := G
  refine gw_putrF (n := p0) (r := (100 + 16 * p0 + 0)) (k := 0) hx hb hown hin hK G (⟨RX8, TX8, 12, wsX8_init, tyX8, rfl, by decide, by decide, rfl, rfl, hts, hi, hts (.fieldLink RX8 9 "HillArms$Program" "onesEnd" "[I") (by decide +kernel), tyX8_ok, nmX8, rfl, rfl, by decide +kernel⟩ : ha_FpF s ([.ref (ad p0)] : List Value).toArray RX8 9 8 0 1 (.array .int)) (List.mem_append_left _ h0) h0k (List.mem_append_right _ (by simp)) ((a1 _ h0).trans rfl) rfl rfl rfl dX8_init_9 (fun H locs G => ?_)
  refine lv_aload_n hx hb dX8_init_12 rfl (lv_at hl 0 rfl) ?_
  refine lv_bipush (v := 20) hx hb dX8_init_13 (by decide) ?_
  refine gw_newi hx hb (hts (.arrayClass .int) (by decide +kernel)) hK G (n := (100 + 16 * p0 + 1)) (L := 20) (gw_nin (hL _ (by simp)) (by simp only [List.mem_cons, List.not_mem_nil, or_false]; omega)) (((pg_tab p0 (by omega) hp1).2 1 (by omega)).2.1) ((pgl hp1 hp2 1 (by omega)).trans (by decide)) (by decide +kernel) (by decide +kernel) (by decide) (Nat.le_of_ble_eq_true rfl) (Nat.le_of_ble_eq_true rfl) dX8_init_15 (fun ad2 H a2 G => ?_)
  have A2 : ∀ y, y ∈ N → ad2 y = ad y := fun y hy => (a2 y (List.mem_append_left _ hy)).trans (A1 y hy)
  rw [List.append_assoc] at G
  have G : gw_G D cs ad2 xo_kd xo_ln (N ++ [(100 + 16 * p0 + 0), (100 + 16 * p0 + 1)]) _ z0 s.heap H _ := G
  refine gw_putrF (n := p0) (r := (100 + 16 * p0 + 1)) (k := 1) hx hb hown hin hK G (⟨RX8, TX8, 12, wsX8_init, tyX8, rfl, by decide, by decide, rfl, rfl, hts, hi, hts (.fieldLink RX8 15 "HillArms$Program" "actsEnd" "[I") (by decide +kernel), tyX8_ok, nmX8, rfl, rfl, by decide +kernel⟩ : ha_FpF s ([.ref (ad p0)] : List Value).toArray RX8 15 8 1 1 (.array .int)) (List.mem_append_left _ h0) h0k (List.mem_append_right _ (by simp)) ((a2 _ (List.mem_append_left _ h0)).trans ((a1 _ h0).trans rfl)) rfl rfl rfl dX8_init_17 (fun H locs G => ?_)
  refine lv_aload_n hx hb dX8_init_20 rfl (lv_at hl 0 rfl) ?_
  refine lv_bipush (v := 40) hx hb dX8_init_21 (by decide) ?_
  refine gw_newi hx hb (hts (.arrayClass .int) (by decide +kernel)) hK G (n := (100 + 16 * p0 + 2)) (L := 40) (gw_nin (hL _ (by simp)) (by simp only [List.mem_cons, List.not_mem_nil, or_false]; omega)) (((pg_tab p0 (by omega) hp1).2 2 (by omega)).2.1) ((pgl hp1 hp2 2 (by omega)).trans (by decide)) (by decide +kernel) (by decide +kernel) (by decide) (Nat.le_of_ble_eq_true rfl) (Nat.le_of_ble_eq_true rfl) dX8_init_23 (fun ad3 H a3 G => ?_)
  have A3 : ∀ y, y ∈ N → ad3 y = ad y := fun y hy => (a3 y (List.mem_append_left _ hy)).trans (A2 y hy)
  rw [List.append_assoc] at G
  have G : gw_G D cs ad3 xo_kd xo_ln (N ++ [(100 + 16 * p0 + 0), (100 + 16 * p0 + 1), (100 + 16 * p0 + 2)]) _ z0 s.heap H _ := G
  refine gw_putrF (n := p0) (r := (100 + 16 * p0 + 2)) (k := 2) hx hb hown hin hK G (⟨RX8, TX8, 12, wsX8_init, tyX8, rfl, by decide, by decide, rfl, rfl, hts, hi, hts (.fieldLink RX8 18 "HillArms$Program" "oneLeft" "[I") (by decide +kernel), tyX8_ok, nmX8, rfl, rfl, by decide +kernel⟩ : ha_FpF s ([.ref (ad p0)] : List Value).toArray RX8 18 8 2 1 (.array .int)) (List.mem_append_left _ h0) h0k (List.mem_append_right _ (by simp)) ((a3 _ (List.mem_append_left _ h0)).trans ((a2 _ (List.mem_append_left _ h0)).trans ((a1 _ h0).trans rfl))) rfl rfl rfl dX8_init_25 (fun H locs G => ?_)
  refine lv_aload_n hx hb dX8_init_28 rfl (lv_at hl 0 rfl) ?_
  refine lv_bipush (v := 40) hx hb dX8_init_29 (by decide) ?_
  refine gw_newi hx hb (hts (.arrayClass .int) (by decide +kernel)) hK G (n := (100 + 16 * p0 + 3)) (L := 40) (gw_nin (hL _ (by simp)) (by simp only [List.mem_cons, List.not_mem_nil, or_false]; omega)) (((pg_tab p0 (by omega) hp1).2 3 (by omega)).2.1) ((pgl hp1 hp2 3 (by omega)).trans (by decide)) (by decide +kernel) (by decide +kernel) (by decide) (Nat.le_of_ble_eq_true rfl) (Nat.le_of_ble_eq_true rfl) dX8_init_31 (fun ad4 H a4 G => ?_)
  have A4 : ∀ y, y ∈ N → ad4 y = ad y := fun y hy => (a4 y (List.mem_append_left _ hy)).trans (A3 y hy)
  rw [List.append_assoc] at G
  have G : gw_G D cs ad4 xo_kd xo_ln (N ++ [(100 + 16 * p0 + 0), (100 + 16 * p0 + 1), (100 + 16 * p0 + 2), (100 + 16 * p0 + 3)]) _ z0 s.heap H _ := G
  refine gw_putrF (n := p0) (r := (100 + 16 * p0 + 3)) (k := 3) hx hb hown hin hK G (⟨RX8, TX8, 12, wsX8_init, tyX8, rfl, by decide, by decide, rfl, rfl, hts, hi, hts (.fieldLink RX8 21 "HillArms$Program" "oneMark" "[I") (by decide +kernel), tyX8_ok, nmX8, rfl, rfl, by decide +kernel⟩ : ha_FpF s ([.ref (ad p0)] : List Value).toArray RX8 21 8 3 1 (.array .int)) (List.mem_append_left _ h0) h0k (List.mem_append_right _ (by simp)) ((a4 _ (List.mem_append_left _ h0)).trans ((a3 _ (List.mem_append_left _ h0)).trans ((a2 _ (List.mem_append_left _ h0)).trans ((a1 _ h0).trans rfl)))) rfl rfl rfl dX8_init_33 (fun H locs G => ?_)
  refine lv_aload_n hx hb dX8_init_36 rfl (lv_at hl 0 rfl) ?_
  refine lv_bipush (v := 40) hx hb dX8_init_37 (by decide) ?_
  refine gw_newi hx hb (hts (.arrayClass .int) (by decide +kernel)) hK G (n := (100 + 16 * p0 + 4)) (L := 40) (gw_nin (hL _ (by simp)) (by simp only [List.mem_cons, List.not_mem_nil, or_false]; omega)) (((pg_tab p0 (by omega) hp1).2 4 (by omega)).2.1) ((pgl hp1 hp2 4 (by omega)).trans (by decide)) (by decide +kernel) (by decide +kernel) (by decide) (Nat.le_of_ble_eq_true rfl) (Nat.le_of_ble_eq_true rfl) dX8_init_39 (fun ad5 H a5 G => ?_)
  have A5 : ∀ y, y ∈ N → ad5 y = ad y := fun y hy => (a5 y (List.mem_append_left _ hy)).trans (A4 y hy)
  rw [List.append_assoc] at G
  have G : gw_G D cs ad5 xo_kd xo_ln (N ++ [(100 + 16 * p0 + 0), (100 + 16 * p0 + 1), (100 + 16 * p0 + 2), (100 + 16 * p0 + 3), (100 + 16 * p0 + 4)]) _ z0 s.heap H _ := G
  refine gw_putrF (n := p0) (r := (100 + 16 * p0 + 4)) (k := 4) hx hb hown hin hK G (⟨RX8, TX8, 12, wsX8_init, tyX8, rfl, by decide, by decide, rfl, rfl, hts, hi, hts (.fieldLink RX8 24 "HillArms$Program" "oneRight" "[I") (by decide +kernel), tyX8_ok, nmX8, rfl, rfl, by decide +kernel⟩ : ha_FpF s ([.ref (ad p0)] : List Value).toArray RX8 24 8 4 1 (.array .int)) (List.mem_append_left _ h0) h0k (List.mem_append_right _ (by simp)) ((a5 _ (List.mem_append_left _ h0)).trans ((a4 _ (List.mem_append_left _ h0)).trans ((a3 _ (List.mem_append_left _ h0)).trans ((a2 _ (List.mem_append_left _ h0)).trans ((a1 _ h0).trans rfl))))) rfl rfl rfl dX8_init_41 (fun H locs G => ?_)
  refine lv_aload_n hx hb dX8_init_44 rfl (lv_at hl 0 rfl) ?_
  refine lv_bipush (v := 40) hx hb dX8_init_45 (by decide) ?_
  refine gw_newi hx hb (hts (.arrayClass .int) (by decide +kernel)) hK G (n := (100 + 16 * p0 + 5)) (L := 40) (gw_nin (hL _ (by simp)) (by simp only [List.mem_cons, List.not_mem_nil, or_false]; omega)) (((pg_tab p0 (by omega) hp1).2 5 (by omega)).2.1) ((pgl hp1 hp2 5 (by omega)).trans (by decide)) (by decide +kernel) (by decide +kernel) (by decide) (Nat.le_of_ble_eq_true rfl) (Nat.le_of_ble_eq_true rfl) dX8_init_47 (fun ad6 H a6 G => ?_)
  have A6 : ∀ y, y ∈ N → ad6 y = ad y := fun y hy => (a6 y (List.mem_append_left _ hy)).trans (A5 y hy)
  rw [List.append_assoc] at G
  have G : gw_G D cs ad6 xo_kd xo_ln (N ++ [(100 + 16 * p0 + 0), (100 + 16 * p0 + 1), (100 + 16 * p0 + 2), (100 + 16 * p0 + 3), (100 + 16 * p0 + 4), (100 + 16 * p0 + 5)]) _ z0 s.heap H _ := G
  refine gw_putrF (n := p0) (r := (100 + 16 * p0 + 5)) (k := 5) hx hb hown hin hK G (⟨RX8, TX8, 12, wsX8_init, tyX8, rfl, by decide, by decide, rfl, rfl, hts, hi, hts (.fieldLink RX8 27 "HillArms$Program" "act" "[I") (by decide +kernel), tyX8_ok, nmX8, rfl, rfl, by decide +kernel⟩ : ha_FpF s ([.ref (ad p0)] : List Value).toArray RX8 27 8 5 1 (.array .int)) (List.mem_append_left _ h0) h0k (List.mem_append_right _ (by simp)) ((a6 _ (List.mem_append_left _ h0)).trans ((a5 _ (List.mem_append_left _ h0)).trans ((a4 _ (List.mem_append_left _ h0)).trans ((a3 _ (List.mem_append_left _ h0)).trans ((a2 _ (List.mem_append_left _ h0)).trans ((a1 _ h0).trans rfl)))))) rfl rfl rfl dX8_init_49 (fun H locs G => ?_)
  refine lv_aload_n hx hb dX8_init_52 rfl (lv_at hl 0 rfl) ?_
  refine lv_bipush (v := 40) hx hb dX8_init_53 (by decide) ?_
  refine gw_newi hx hb (hts (.arrayClass .int) (by decide +kernel)) hK G (n := (100 + 16 * p0 + 6)) (L := 40) (gw_nin (hL _ (by simp)) (by simp only [List.mem_cons, List.not_mem_nil, or_false]; omega)) (((pg_tab p0 (by omega) hp1).2 6 (by omega)).2.1) ((pgl hp1 hp2 6 (by omega)).trans (by decide)) (by decide +kernel) (by decide +kernel) (by decide) (Nat.le_of_ble_eq_true rfl) (Nat.le_of_ble_eq_true rfl) dX8_init_55 (fun ad7 H a7 G => ?_)
  have A7 : ∀ y, y ∈ N → ad7 y = ad y := fun y hy => (a7 y (List.mem_append_left _ hy)).trans (A6 y hy)
  rw [List.append_assoc] at G
  have G : gw_G D cs ad7 xo_kd xo_ln (N ++ [(100 + 16 * p0 + 0), (100 + 16 * p0 + 1), (100 + 16 * p0 + 2), (100 + 16 * p0 + 3), (100 + 16 * p0 + 4), (100 + 16 * p0 + 5), (100 + 16 * p0 + 6)]) _ z0 s.heap H _ := G
  refine gw_putrF (n := p0) (r := (100 + 16 * p0 + 6)) (k := 6) hx hb hown hin hK G (⟨RX8, TX8, 12, wsX8_init, tyX8, rfl, by decide, by decide, rfl, rfl, hts, hi, hts (.fieldLink RX8 30 "HillArms$Program" "sumFirst" "[I") (by decide +kernel), tyX8_ok, nmX8, rfl, rfl, by decide +kernel⟩ : ha_FpF s ([.ref (ad p0)] : List Value).toArray RX8 30 8 6 1 (.array .int)) (List.mem_append_left _ h0) h0k (List.mem_append_right _ (by simp)) ((a7 _ (List.mem_append_left _ h0)).trans ((a6 _ (List.mem_append_left _ h0)).trans ((a5 _ (List.mem_append_left _ h0)).trans ((a4 _ (List.mem_append_left _ h0)).trans ((a3 _ (List.mem_append_left _ h0)).trans ((a2 _ (List.mem_append_left _ h0)).trans ((a1 _ h0).trans rfl))))))) rfl rfl rfl dX8_init_57 (fun H locs G => ?_)
  refine lv_aload_n hx hb dX8_init_60 rfl (lv_at hl 0 rfl) ?_
  refine lv_bipush (v := 40) hx hb dX8_init_61 (by decide) ?_
  refine gw_newi hx hb (hts (.arrayClass .int) (by decide +kernel)) hK G (n := (100 + 16 * p0 + 7)) (L := 40) (gw_nin (hL _ (by simp)) (by simp only [List.mem_cons, List.not_mem_nil, or_false]; omega)) (((pg_tab p0 (by omega) hp1).2 7 (by omega)).2.1) ((pgl hp1 hp2 7 (by omega)).trans (by decide)) (by decide +kernel) (by decide +kernel) (by decide) (Nat.le_of_ble_eq_true rfl) (Nat.le_of_ble_eq_true rfl) dX8_init_63 (fun ad8 H a8 G => ?_)
  have A8 : ∀ y, y ∈ N → ad8 y = ad y := fun y hy => (a8 y (List.mem_append_left _ hy)).trans (A7 y hy)
  rw [List.append_assoc] at G
  have G : gw_G D cs ad8 xo_kd xo_ln (N ++ [(100 + 16 * p0 + 0), (100 + 16 * p0 + 1), (100 + 16 * p0 + 2), (100 + 16 * p0 + 3), (100 + 16 * p0 + 4), (100 + 16 * p0 + 5), (100 + 16 * p0 + 6), (100 + 16 * p0 + 7)]) _ z0 s.heap H _ := G
  refine gw_putrF (n := p0) (r := (100 + 16 * p0 + 7)) (k := 7) hx hb hown hin hK G (⟨RX8, TX8, 12, wsX8_init, tyX8, rfl, by decide, by decide, rfl, rfl, hts, hi, hts (.fieldLink RX8 33 "HillArms$Program" "sumSecond" "[I") (by decide +kernel), tyX8_ok, nmX8, rfl, rfl, by decide +kernel⟩ : ha_FpF s ([.ref (ad p0)] : List Value).toArray RX8 33 8 7 1 (.array .int)) (List.mem_append_left _ h0) h0k (List.mem_append_right _ (by simp)) ((a8 _ (List.mem_append_left _ h0)).trans ((a7 _ (List.mem_append_left _ h0)).trans ((a6 _ (List.mem_append_left _ h0)).trans ((a5 _ (List.mem_append_left _ h0)).trans ((a4 _ (List.mem_append_left _ h0)).trans ((a3 _ (List.mem_append_left _ h0)).trans ((a2 _ (List.mem_append_left _ h0)).trans ((a1 _ h0).trans rfl)))))))) rfl rfl rfl dX8_init_65 (fun H locs G => ?_)
  exact gw_ret hx hb hr hlocks A8 G rfl dX8_init_68

def i_X5 (p0 : Nat) (S : ha_St) : ha_St := (ha_sI (ha_sR (ha_sR (ha_sR (ha_sR S p0 0 (some ((100 + 16 * p0)))) p0 1 (some ((101 + 16 * p0)))) p0 2 (some ((102 + 16 * p0)))) p0 3 (some ((103 + 16 * p0)))) p0 7 (-1))
theorem ct_X5 {l : Launch} {D : va_G} {cs : Nat → ClassId} {ad : Nat → Nat} {N : List Nat} {z0 : Nat} {S : ha_St} {p0 : Nat} (hn : isLn p0) (h16 : p0 ≠ 16) (h0 : p0 ∈ N) (hL : ∀ x, x ∈ ([(100 + 16 * p0), (101 + 16 * p0), (102 + 16 * p0), (103 + 16 * p0)] : List Nat) → x ∉ N) : ct_Met l D cs ad xo_kd xo_ln N z0 yX5_init wsX5_init ({ frames := 1, cells := 4, slots := 48, locals := 12 } : Room) [.ref (ad p0), .int (8), .int (0)] S [(100 + 16 * p0), (101 + 16 * p0), (102 + 16 * p0), (103 + 16 * p0)] (i_X5 p0 S) 4 48 := by
  refine Met.ofW (cc := cX5_init) (maxL := 3) (ret := none) (by decide +kernel) rfl ?_
  intro p e s m args below meth c s₁ B hml hv
  obtain ⟨rfl, hP, hD, hK, hz, hNl, hC, hB⟩ := hv
  have hx := B.exec
  have hb := B.bytes
  have hr := B.returns
  have hts := atoms_spec (ws := wsX5_init) B.pre
  have hown : s.vm.findClass RX5 = some m.cls := findClass_of_methodNamed B.named
  have hlocks := B.notSynchronized
  have hin : meth.name = "<init>" := (name_of_methodNamed B.named B.method).1
  have hi : ∀ w ∈ wsX50, w ∈ wsX5_init := fun w h => List.mem_cons_of_mem _ (List.mem_append_right _ h)
  have h0k : xo_kd p0 = 5 := (ln_all hn).1
  have G : gw_G D cs ad xo_kd xo_ln N S z0 s.heap s.heap [] := ⟨hP, hD, va_S.rf, hC, hB, hz⟩
  have hl := lv_entry ([.ref (ad p0), .int (8), .int (0)]) (n := 3) (Nat.le_of_ble_eq_true rfl)
  rw [lg_entry_eq]
  generalize (lg_sl ([.ref (ad p0), .int (8), .int (0)]) ++ List.replicate (3 - (lg_sl ([.ref (ad p0), .int (8), .int (0)])).length) Slot.unset).toArray = ls at hl ⊢
  have hl : lv_has ls 3 [(0, .ref (ad p0)), (1, .int (8)), (2, .int (0))] := hl
  refine lv_aload_n hx hb dX5_init_0 rfl (lv_at hl 0 rfl) ?_
  refine W.objInit hx hb hown (hts (.methodLink RX5 3 objectInit) (by decide +kernel)) (hts (.instanceMethod objectInit) (by decide +kernel)) (hts _ (List.mem_cons_of_mem _ (List.mem_append_left _ (List.mem_of_getElem? (i := 2) rfl)))) rfl (by rw [hml]; exact hl.1) rfl dX5_init_1 (Nat.le_of_ble_eq_true rfl) (Nat.le_of_ble_eq_true rfl) ?_
  refine lv_aload_n hx hb dX5_init_4 rfl (lv_at hl 0 rfl) ?_
  refine lv_iload_n hx hb dX5_init_5 rfl (lv_at hl 1 rfl) ?_
  refine gw_newi hx hb (hts (.arrayClass .int) (by decide +kernel)) hK G (n := (100 + 16 * p0)) (L := 8) (hL _ (by simp)) ((ln_all hn).2.2.2.2.2.1) ((ll0 hn).trans (by unfold rom; rw [if_neg h16])) (by decide +kernel) (by decide +kernel) (by decide) (Nat.le_of_ble_eq_true rfl) (Nat.le_of_ble_eq_true rfl) dX5_init_6 (fun ad1 H a1 G => ?_)
  have A1 : ∀ y, y ∈ N → ad1 y = ad y := fun y hy => a1 y hy
  have G : gw_G D cs ad1 xo_kd xo_ln (N ++ [(100 + 16 * p0)]) _ z0 s.heap H _ := G
  refine gw_putrF (n := p0) (r := (100 + 16 * p0)) (k := 0) hx hb hown hin hK G (⟨RX5, TX5, 8, wsX5_init, tyX5, rfl, by decide, by decide, rfl, rfl, hts, hi, hts (.fieldLink RX5 9 "HillArms$Line" "sign" "[I") (by decide +kernel), tyX5_ok, nmX5, rfl, rfl, by decide +kernel⟩ : ha_FpF s ([.ref (ad p0), .int (8), .int (0)] : List Value).toArray RX5 9 5 0 1 (.array .int)) (List.mem_append_left _ h0) h0k (List.mem_append_right _ (by simp)) ((a1 _ h0).trans rfl) rfl rfl rfl dX5_init_8 (fun H locs G => ?_)
  refine lv_aload_n hx hb dX5_init_11 rfl (lv_at hl 0 rfl) ?_
  refine lv_iload_n hx hb dX5_init_12 rfl (lv_at hl 1 rfl) ?_
  refine gw_newi hx hb (hts (.arrayClass .int) (by decide +kernel)) hK G (n := (101 + 16 * p0)) (L := 8) (gw_nin (hL _ (by simp)) (by simp only [List.mem_cons, List.not_mem_nil, or_false]; omega)) ((ln_all hn).2.2.2.2.2.2.1) ((ll1 hn).trans (by unfold rom; rw [if_neg h16])) (by decide +kernel) (by decide +kernel) (by decide) (Nat.le_of_ble_eq_true rfl) (Nat.le_of_ble_eq_true rfl) dX5_init_13 (fun ad2 H a2 G => ?_)
  have A2 : ∀ y, y ∈ N → ad2 y = ad y := fun y hy => (a2 y (List.mem_append_left _ hy)).trans (A1 y hy)
  rw [List.append_assoc] at G
  have G : gw_G D cs ad2 xo_kd xo_ln (N ++ [(100 + 16 * p0), (101 + 16 * p0)]) _ z0 s.heap H _ := G
  refine gw_putrF (n := p0) (r := (101 + 16 * p0)) (k := 1) hx hb hown hin hK G (⟨RX5, TX5, 8, wsX5_init, tyX5, rfl, by decide, by decide, rfl, rfl, hts, hi, hts (.fieldLink RX5 15 "HillArms$Line" "time" "[I") (by decide +kernel), tyX5_ok, nmX5, rfl, rfl, by decide +kernel⟩ : ha_FpF s ([.ref (ad p0), .int (8), .int (0)] : List Value).toArray RX5 15 5 1 1 (.array .int)) (List.mem_append_left _ h0) h0k (List.mem_append_right _ (by simp)) ((a2 _ (List.mem_append_left _ h0)).trans ((a1 _ h0).trans rfl)) rfl rfl rfl dX5_init_15 (fun H locs G => ?_)
  refine lv_aload_n hx hb dX5_init_18 rfl (lv_at hl 0 rfl) ?_
  refine lv_iload_n hx hb dX5_init_19 rfl (lv_at hl 1 rfl) ?_
  refine lv_iconst (v := 4) hx hb dX5_init_20 (by decide) ?_
  refine lv_imul hx hb dX5_init_21 ?_
  refine gw_newi hx hb (hts (.arrayClass .int) (by decide +kernel)) hK G (n := (102 + 16 * p0)) (L := 32) (gw_nin (hL _ (by simp)) (by simp only [List.mem_cons, List.not_mem_nil, or_false]; omega)) ((ln_all hn).2.2.2.2.2.2.2.1) ((ll2 hn).trans (by unfold rom; rw [if_neg h16])) (by decide +kernel) (by decide +kernel) (by decide) (Nat.le_of_ble_eq_true rfl) (Nat.le_of_ble_eq_true rfl) dX5_init_22 (fun ad3 H a3 G => ?_)
  have A3 : ∀ y, y ∈ N → ad3 y = ad y := fun y hy => (a3 y (List.mem_append_left _ hy)).trans (A2 y hy)
  rw [List.append_assoc] at G
  have G : gw_G D cs ad3 xo_kd xo_ln (N ++ [(100 + 16 * p0), (101 + 16 * p0), (102 + 16 * p0)]) _ z0 s.heap H _ := G
  refine gw_putrF (n := p0) (r := (102 + 16 * p0)) (k := 2) hx hb hown hin hK G (⟨RX5, TX5, 8, wsX5_init, tyX5, rfl, by decide, by decide, rfl, rfl, hts, hi, hts (.fieldLink RX5 18 "HillArms$Line" "cell" "[I") (by decide +kernel), tyX5_ok, nmX5, rfl, rfl, by decide +kernel⟩ : ha_FpF s ([.ref (ad p0), .int (8), .int (0)] : List Value).toArray RX5 18 5 2 1 (.array .int)) (List.mem_append_left _ h0) h0k (List.mem_append_right _ (by simp)) ((a3 _ (List.mem_append_left _ h0)).trans ((a2 _ (List.mem_append_left _ h0)).trans ((a1 _ h0).trans rfl))) rfl rfl rfl dX5_init_24 (fun H locs G => ?_)
  refine lv_aload_n hx hb dX5_init_27 rfl (lv_at hl 0 rfl) ?_
  refine lv_iload_n hx hb dX5_init_28 rfl (lv_at hl 2 rfl) ?_
  refine gw_newi hx hb (hts (.arrayClass .int) (by decide +kernel)) hK G (n := (103 + 16 * p0)) (L := 0) (gw_nin (hL _ (by simp)) (by simp only [List.mem_cons, List.not_mem_nil, or_false]; omega)) ((ln_all hn).2.2.2.2.2.2.2.2.1) ((ll3 hn).trans (if_neg h16)) (by decide +kernel) (by decide +kernel) (by decide) (Nat.le_of_ble_eq_true rfl) (Nat.le_of_ble_eq_true rfl) dX5_init_29 (fun ad4 H a4 G => ?_)
  have A4 : ∀ y, y ∈ N → ad4 y = ad y := fun y hy => (a4 y (List.mem_append_left _ hy)).trans (A3 y hy)
  rw [List.append_assoc] at G
  have G : gw_G D cs ad4 xo_kd xo_ln (N ++ [(100 + 16 * p0), (101 + 16 * p0), (102 + 16 * p0), (103 + 16 * p0)]) _ z0 s.heap H _ := G
  refine gw_putrF (n := p0) (r := (103 + 16 * p0)) (k := 3) hx hb hown hin hK G (⟨RX5, TX5, 8, wsX5_init, tyX5, rfl, by decide, by decide, rfl, rfl, hts, hi, hts (.fieldLink RX5 21 "HillArms$Line" "book" "[I") (by decide +kernel), tyX5_ok, nmX5, rfl, rfl, by decide +kernel⟩ : ha_FpF s ([.ref (ad p0), .int (8), .int (0)] : List Value).toArray RX5 21 5 3 1 (.array .int)) (List.mem_append_left _ h0) h0k (List.mem_append_right _ (by simp)) ((a4 _ (List.mem_append_left _ h0)).trans ((a3 _ (List.mem_append_left _ h0)).trans ((a2 _ (List.mem_append_left _ h0)).trans ((a1 _ h0).trans rfl)))) rfl rfl rfl dX5_init_31 (fun H locs G => ?_)
  refine lv_aload_n hx hb dX5_init_34 rfl (lv_at hl 0 rfl) ?_
  refine lv_iconst (v := -1) hx hb dX5_init_35 (by decide) ?_
  refine gw_puti (n := p0) (k := 7) hx hb hown hK G (⟨RX5, TX5, 8, wsX5_init, tyX5, rfl, by decide, by decide, rfl, rfl, hts, hi, hts (.fieldLink RX5 24 "HillArms$Line" "wrongAt" "I") (by decide +kernel), tyX5_ok, nmX5, rfl, by decide +kernel⟩ : ha_Fp s ([.ref (ad p0), .int (8), .int (0)] : List Value).toArray RX5 24 5 7 0 .int) (List.mem_append_left _ h0) h0k ((a4 _ (List.mem_append_left _ h0)).trans ((a3 _ (List.mem_append_left _ h0)).trans ((a2 _ (List.mem_append_left _ h0)).trans ((a1 _ h0).trans rfl)))) dX5_init_36 (fun H locs G => ?_)
  exact gw_ret hx hb hr hlocks A4 G rfl dX5_init_39

def i_X516 (S : ha_St) : ha_St := (ha_sI (ha_sR (ha_sR (ha_sR (ha_sR S 16 0 (some 356)) 16 1 (some 357)) 16 2 (some 358)) 16 3 (some 359)) 16 7 (-1))
theorem ct_X516 {l : Launch} {D : va_G} {cs : Nat → ClassId} {ad : Nat → Nat} {N : List Nat} {z0 : Nat} {S : ha_St} (h0 : 16 ∈ N) (hL : ∀ x, x ∈ ([356, 357, 358, 359] : List Nat) → x ∉ N) : ct_Met l D cs ad xo_kd xo_ln N z0 yX5_init wsX5_init ({ frames := 1, cells := 4, slots := 196, locals := 12 } : Room) [.ref (ad 16), .int (16), .int (100)] S [356, 357, 358, 359] (i_X516 S) 4 196 := by
  refine Met.ofW (cc := cX5_init) (maxL := 3) (ret := none) (by decide +kernel) rfl ?_
  intro p e s m args below meth c s₁ B hml hv
  obtain ⟨rfl, hP, hD, hK, hz, hNl, hC, hB⟩ := hv
  have hx := B.exec
  have hb := B.bytes
  have hr := B.returns
  have hts := atoms_spec (ws := wsX5_init) B.pre
  have hown : s.vm.findClass RX5 = some m.cls := findClass_of_methodNamed B.named
  have hlocks := B.notSynchronized
  have hin : meth.name = "<init>" := (name_of_methodNamed B.named B.method).1
  have hi : ∀ w ∈ wsX50, w ∈ wsX5_init := fun w h => List.mem_cons_of_mem _ (List.mem_append_right _ h)
  have h0k : xo_kd 16 = 5 := by decide +kernel
  have G : gw_G D cs ad xo_kd xo_ln N S z0 s.heap s.heap [] := ⟨hP, hD, va_S.rf, hC, hB, hz⟩
  have hl := lv_entry ([.ref (ad 16), .int (16), .int (100)]) (n := 3) (Nat.le_of_ble_eq_true rfl)
  rw [lg_entry_eq]
  generalize (lg_sl ([.ref (ad 16), .int (16), .int (100)]) ++ List.replicate (3 - (lg_sl ([.ref (ad 16), .int (16), .int (100)])).length) Slot.unset).toArray = ls at hl ⊢
  have hl : lv_has ls 3 [(0, .ref (ad 16)), (1, .int (16)), (2, .int (100))] := hl
  refine lv_aload_n hx hb dX5_init_0 rfl (lv_at hl 0 rfl) ?_
  refine W.objInit hx hb hown (hts (.methodLink RX5 3 objectInit) (by decide +kernel)) (hts (.instanceMethod objectInit) (by decide +kernel)) (hts _ (List.mem_cons_of_mem _ (List.mem_append_left _ (List.mem_of_getElem? (i := 2) rfl)))) rfl (by rw [hml]; exact hl.1) rfl dX5_init_1 (Nat.le_of_ble_eq_true rfl) (Nat.le_of_ble_eq_true rfl) ?_
  refine lv_aload_n hx hb dX5_init_4 rfl (lv_at hl 0 rfl) ?_
  refine lv_iload_n hx hb dX5_init_5 rfl (lv_at hl 1 rfl) ?_
  refine gw_newi hx hb (hts (.arrayClass .int) (by decide +kernel)) hK G (n := 356) (L := 16) (hL _ (by simp)) (by decide +kernel) (by decide +kernel) (by decide +kernel) (by decide +kernel) (by decide) (Nat.le_of_ble_eq_true rfl) (Nat.le_of_ble_eq_true rfl) dX5_init_6 (fun ad1 H a1 G => ?_)
  have A1 : ∀ y, y ∈ N → ad1 y = ad y := fun y hy => a1 y hy
  have G : gw_G D cs ad1 xo_kd xo_ln (N ++ [356]) _ z0 s.heap H _ := G
  refine gw_putrF (n := 16) (r := 356) (k := 0) hx hb hown hin hK G (⟨RX5, TX5, 8, wsX5_init, tyX5, rfl, by decide, by decide, rfl, rfl, hts, hi, hts (.fieldLink RX5 9 "HillArms$Line" "sign" "[I") (by decide +kernel), tyX5_ok, nmX5, rfl, rfl, by decide +kernel⟩ : ha_FpF s ([.ref (ad 16), .int (16), .int (100)] : List Value).toArray RX5 9 5 0 1 (.array .int)) (List.mem_append_left _ h0) h0k (List.mem_append_right _ (by simp)) ((a1 _ h0).trans rfl) rfl rfl rfl dX5_init_8 (fun H locs G => ?_)
  refine lv_aload_n hx hb dX5_init_11 rfl (lv_at hl 0 rfl) ?_
  refine lv_iload_n hx hb dX5_init_12 rfl (lv_at hl 1 rfl) ?_
  refine gw_newi hx hb (hts (.arrayClass .int) (by decide +kernel)) hK G (n := 357) (L := 16) (gw_nin (hL _ (by simp)) (by simp only [List.mem_cons, List.not_mem_nil, or_false]; omega)) (by decide +kernel) (by decide +kernel) (by decide +kernel) (by decide +kernel) (by decide) (Nat.le_of_ble_eq_true rfl) (Nat.le_of_ble_eq_true rfl) dX5_init_13 (fun ad2 H a2 G => ?_)
  have A2 : ∀ y, y ∈ N → ad2 y = ad y := fun y hy => (a2 y (List.mem_append_left _ hy)).trans (A1 y hy)
  rw [List.append_assoc] at G
  have G : gw_G D cs ad2 xo_kd xo_ln (N ++ [356, 357]) _ z0 s.heap H _ := G
  refine gw_putrF (n := 16) (r := 357) (k := 1) hx hb hown hin hK G (⟨RX5, TX5, 8, wsX5_init, tyX5, rfl, by decide, by decide, rfl, rfl, hts, hi, hts (.fieldLink RX5 15 "HillArms$Line" "time" "[I") (by decide +kernel), tyX5_ok, nmX5, rfl, rfl, by decide +kernel⟩ : ha_FpF s ([.ref (ad 16), .int (16), .int (100)] : List Value).toArray RX5 15 5 1 1 (.array .int)) (List.mem_append_left _ h0) h0k (List.mem_append_right _ (by simp)) ((a2 _ (List.mem_append_left _ h0)).trans ((a1 _ h0).trans rfl)) rfl rfl rfl dX5_init_15 (fun H locs G => ?_)
  refine lv_aload_n hx hb dX5_init_18 rfl (lv_at hl 0 rfl) ?_
  refine lv_iload_n hx hb dX5_init_19 rfl (lv_at hl 1 rfl) ?_
  refine lv_iconst (v := 4) hx hb dX5_init_20 (by decide) ?_
  refine lv_imul hx hb dX5_init_21 ?_
  refine gw_newi hx hb (hts (.arrayClass .int) (by decide +kernel)) hK G (n := 358) (L := 64) (gw_nin (hL _ (by simp)) (by simp only [List.mem_cons, List.not_mem_nil, or_false]; omega)) (by decide +kernel) (by decide +kernel) (by decide +kernel) (by decide +kernel) (by decide) (Nat.le_of_ble_eq_true rfl) (Nat.le_of_ble_eq_true rfl) dX5_init_22 (fun ad3 H a3 G => ?_)
  have A3 : ∀ y, y ∈ N → ad3 y = ad y := fun y hy => (a3 y (List.mem_append_left _ hy)).trans (A2 y hy)
  rw [List.append_assoc] at G
  have G : gw_G D cs ad3 xo_kd xo_ln (N ++ [356, 357, 358]) _ z0 s.heap H _ := G
  refine gw_putrF (n := 16) (r := 358) (k := 2) hx hb hown hin hK G (⟨RX5, TX5, 8, wsX5_init, tyX5, rfl, by decide, by decide, rfl, rfl, hts, hi, hts (.fieldLink RX5 18 "HillArms$Line" "cell" "[I") (by decide +kernel), tyX5_ok, nmX5, rfl, rfl, by decide +kernel⟩ : ha_FpF s ([.ref (ad 16), .int (16), .int (100)] : List Value).toArray RX5 18 5 2 1 (.array .int)) (List.mem_append_left _ h0) h0k (List.mem_append_right _ (by simp)) ((a3 _ (List.mem_append_left _ h0)).trans ((a2 _ (List.mem_append_left _ h0)).trans ((a1 _ h0).trans rfl))) rfl rfl rfl dX5_init_24 (fun H locs G => ?_)
  refine lv_aload_n hx hb dX5_init_27 rfl (lv_at hl 0 rfl) ?_
  refine lv_iload_n hx hb dX5_init_28 rfl (lv_at hl 2 rfl) ?_
  refine gw_newi hx hb (hts (.arrayClass .int) (by decide +kernel)) hK G (n := 359) (L := 100) (gw_nin (hL _ (by simp)) (by simp only [List.mem_cons, List.not_mem_nil, or_false]; omega)) (by decide +kernel) (by decide +kernel) (by decide +kernel) (by decide +kernel) (by decide) (Nat.le_of_ble_eq_true rfl) (Nat.le_of_ble_eq_true rfl) dX5_init_29 (fun ad4 H a4 G => ?_)
  have A4 : ∀ y, y ∈ N → ad4 y = ad y := fun y hy => (a4 y (List.mem_append_left _ hy)).trans (A3 y hy)
  rw [List.append_assoc] at G
  have G : gw_G D cs ad4 xo_kd xo_ln (N ++ [356, 357, 358, 359]) _ z0 s.heap H _ := G
  refine gw_putrF (n := 16) (r := 359) (k := 3) hx hb hown hin hK G (⟨RX5, TX5, 8, wsX5_init, tyX5, rfl, by decide, by decide, rfl, rfl, hts, hi, hts (.fieldLink RX5 21 "HillArms$Line" "book" "[I") (by decide +kernel), tyX5_ok, nmX5, rfl, rfl, by decide +kernel⟩ : ha_FpF s ([.ref (ad 16), .int (16), .int (100)] : List Value).toArray RX5 21 5 3 1 (.array .int)) (List.mem_append_left _ h0) h0k (List.mem_append_right _ (by simp)) ((a4 _ (List.mem_append_left _ h0)).trans ((a3 _ (List.mem_append_left _ h0)).trans ((a2 _ (List.mem_append_left _ h0)).trans ((a1 _ h0).trans rfl)))) rfl rfl rfl dX5_init_31 (fun H locs G => ?_)
  refine lv_aload_n hx hb dX5_init_34 rfl (lv_at hl 0 rfl) ?_
  refine lv_iconst (v := -1) hx hb dX5_init_35 (by decide) ?_
  refine gw_puti (n := 16) (k := 7) hx hb hown hK G (⟨RX5, TX5, 8, wsX5_init, tyX5, rfl, by decide, by decide, rfl, rfl, hts, hi, hts (.fieldLink RX5 24 "HillArms$Line" "wrongAt" "I") (by decide +kernel), tyX5_ok, nmX5, rfl, by decide +kernel⟩ : ha_Fp s ([.ref (ad 16), .int (16), .int (100)] : List Value).toArray RX5 24 5 7 0 .int) (List.mem_append_left _ h0) h0k ((a4 _ (List.mem_append_left _ h0)).trans ((a3 _ (List.mem_append_left _ h0)).trans ((a2 _ (List.mem_append_left _ h0)).trans ((a1 _ h0).trans rfl)))) dX5_init_36 (fun H locs G => ?_)
  exact gw_ret hx hb hr hlocks A4 G rfl dX5_init_39

def i_X6a (S : ha_St) : ha_St := (ha_sR (ha_sR (ha_sR (ha_sR S 7 0 (some 212)) 7 1 (some 213)) 7 2 (some 214)) 7 3 (some 215))
theorem ct_X6a {l : Launch} {D : va_G} {cs : Nat → ClassId} {ad : Nat → Nat} {N : List Nat} {z0 : Nat} {S : ha_St} (h0 : 7 ∈ N) (hL : ∀ x, x ∈ ([212, 213, 214, 215] : List Nat) → x ∉ N) : ct_Met l D cs ad xo_kd xo_ln N z0 yX6_init wsX6_init ({ frames := 1, cells := 4, slots := 154, locals := 12 } : Room) [.ref (ad 7), .int (1)] S [212, 213, 214, 215] (i_X6a S) 4 154 := by
  refine Met.ofW (cc := cX6_init) (maxL := 2) (ret := none) (by decide +kernel) rfl ?_
  intro p e s m args below meth c s₁ B hml hv
  obtain ⟨rfl, hP, hD, hK, hz, hNl, hC, hB⟩ := hv
  have hx := B.exec
  have hb := B.bytes
  have hr := B.returns
  have hts := atoms_spec (ws := wsX6_init) B.pre
  have hown : s.vm.findClass RX6 = some m.cls := findClass_of_methodNamed B.named
  have hlocks := B.notSynchronized
  have hin : meth.name = "<init>" := (name_of_methodNamed B.named B.method).1
  have hi : ∀ w ∈ wsX60, w ∈ wsX6_init := fun w h => List.mem_cons_of_mem _ (List.mem_append_right _ h)
  have h0k : xo_kd 7 = 6 := by decide +kernel
  have G : gw_G D cs ad xo_kd xo_ln N S z0 s.heap s.heap [] := ⟨hP, hD, va_S.rf, hC, hB, hz⟩
  have hl := lv_entry ([.ref (ad 7), .int (1)]) (n := 2) (Nat.le_of_ble_eq_true rfl)
  rw [lg_entry_eq]
  generalize (lg_sl ([.ref (ad 7), .int (1)]) ++ List.replicate (2 - (lg_sl ([.ref (ad 7), .int (1)])).length) Slot.unset).toArray = ls at hl ⊢
  have hl : lv_has ls 2 [(0, .ref (ad 7)), (1, .int (1))] := hl
  refine lv_aload_n hx hb dX6_init_0 rfl (lv_at hl 0 rfl) ?_
  refine W.objInit hx hb hown (hts (.methodLink RX6 3 objectInit) (by decide +kernel)) (hts (.instanceMethod objectInit) (by decide +kernel)) (hts _ (List.mem_cons_of_mem _ (List.mem_append_left _ (List.mem_of_getElem? (i := 2) rfl)))) rfl (by rw [hml]; exact hl.1) rfl dX6_init_1 (Nat.le_of_ble_eq_true rfl) (Nat.le_of_ble_eq_true rfl) ?_
  refine lv_aload_n hx hb dX6_init_4 rfl (lv_at hl 0 rfl) ?_
  refine lv_iload_n hx hb dX6_init_5 rfl (lv_at hl 1 rfl) ?_
  refine lv_bipush (v := 61) hx hb dX6_init_6 (by decide) ?_
  refine lv_imul hx hb dX6_init_8 ?_
  refine gw_newi hx hb (hts (.arrayClass .int) (by decide +kernel)) hK G (n := 212) (L := 61) (hL _ (by simp)) (by decide +kernel) (by decide +kernel) (by decide +kernel) (by decide +kernel) (by decide) (Nat.le_of_ble_eq_true rfl) (Nat.le_of_ble_eq_true rfl) dX6_init_9 (fun ad1 H a1 G => ?_)
  have A1 : ∀ y, y ∈ N → ad1 y = ad y := fun y hy => a1 y hy
  have G : gw_G D cs ad1 xo_kd xo_ln (N ++ [212]) _ z0 s.heap H _ := G
  refine gw_putrF (n := 7) (r := 212) (k := 0) hx hb hown hin hK G (⟨RX6, TX6, 8, wsX6_init, tyX6, rfl, by decide, by decide, rfl, rfl, hts, hi, hts (.fieldLink RX6 9 "HillArms$Pages" "text" "[I") (by decide +kernel), tyX6_ok, nmX6, rfl, rfl, by decide +kernel⟩ : ha_FpF s ([.ref (ad 7), .int (1)] : List Value).toArray RX6 9 6 0 1 (.array .int)) (List.mem_append_left _ h0) h0k (List.mem_append_right _ (by simp)) ((a1 _ h0).trans rfl) rfl rfl rfl dX6_init_11 (fun H locs G => ?_)
  refine lv_aload_n hx hb dX6_init_14 rfl (lv_at hl 0 rfl) ?_
  refine lv_iload_n hx hb dX6_init_15 rfl (lv_at hl 1 rfl) ?_
  refine lv_bipush (v := 60) hx hb dX6_init_16 (by decide) ?_
  refine lv_imul hx hb dX6_init_18 ?_
  refine lv_iconst (v := 2) hx hb dX6_init_19 (by decide) ?_
  refine lv_idiv hx hb dX6_init_20 (by decide) ?_
  refine lv_iconst (v := 1) hx hb dX6_init_21 (by decide) ?_
  refine lv_iadd hx hb dX6_init_22 ?_
  refine gw_newi hx hb (hts (.arrayClass .int) (by decide +kernel)) hK G (n := 213) (L := 31) (gw_nin (hL _ (by simp)) (by simp only [List.mem_cons, List.not_mem_nil, or_false]; omega)) (by decide +kernel) (by decide +kernel) (by decide +kernel) (by decide +kernel) (by decide) (Nat.le_of_ble_eq_true rfl) (Nat.le_of_ble_eq_true rfl) dX6_init_23 (fun ad2 H a2 G => ?_)
  have A2 : ∀ y, y ∈ N → ad2 y = ad y := fun y hy => (a2 y (List.mem_append_left _ hy)).trans (A1 y hy)
  rw [List.append_assoc] at G
  have G : gw_G D cs ad2 xo_kd xo_ln (N ++ [212, 213]) _ z0 s.heap H _ := G
  refine gw_putrF (n := 7) (r := 213) (k := 1) hx hb hown hin hK G (⟨RX6, TX6, 8, wsX6_init, tyX6, rfl, by decide, by decide, rfl, rfl, hts, hi, hts (.fieldLink RX6 15 "HillArms$Pages" "wordAt" "[I") (by decide +kernel), tyX6_ok, nmX6, rfl, rfl, by decide +kernel⟩ : ha_FpF s ([.ref (ad 7), .int (1)] : List Value).toArray RX6 15 6 1 1 (.array .int)) (List.mem_append_left _ h0) h0k (List.mem_append_right _ (by simp)) ((a2 _ (List.mem_append_left _ h0)).trans ((a1 _ h0).trans rfl)) rfl rfl rfl dX6_init_25 (fun H locs G => ?_)
  refine lv_aload_n hx hb dX6_init_28 rfl (lv_at hl 0 rfl) ?_
  refine lv_aload_n hx hb dX6_init_29 rfl (lv_at hl 0 rfl) ?_
  refine gw_getr (n := 7) (r := 213) (k := 1) hx hb hown hK G (⟨RX6, TX6, 8, wsX6_init, rfl, by decide, by decide, rfl, rfl, hts, hi, hts (.fieldLink RX6 15 "HillArms$Pages" "wordAt" "[I") (by decide +kernel)⟩ : ha_Fk s ([.ref (ad 7), .int (1)] : List Value).toArray RX6 15 6 1 1) (List.mem_append_left _ h0) h0k ((a2 _ (List.mem_append_left _ h0)).trans ((a1 _ h0).trans rfl)) (by simp [st_RR, st_RI, st_RA, st_RB]) dX6_init_30 ?_
  refine gw_alen (n := 213) (ci := 100) hx hb hK G (List.mem_append_right _ (by simp)) (by decide +kernel) (by decide) (by decide) rfl dX6_init_33 ?_
  refine gw_newi hx hb (hts (.arrayClass .int) (by decide +kernel)) hK G (n := 214) (L := 31) (gw_nin (hL _ (by simp)) (by simp only [List.mem_cons, List.not_mem_nil, or_false]; omega)) (by decide +kernel) (by decide +kernel) (by decide +kernel) (by decide +kernel) (by decide) (Nat.le_of_ble_eq_true rfl) (Nat.le_of_ble_eq_true rfl) dX6_init_34 (fun ad3 H a3 G => ?_)
  have A3 : ∀ y, y ∈ N → ad3 y = ad y := fun y hy => (a3 y (List.mem_append_left _ hy)).trans (A2 y hy)
  rw [List.append_assoc] at G
  have G : gw_G D cs ad3 xo_kd xo_ln (N ++ [212, 213, 214]) _ z0 s.heap H _ := G
  refine gw_putrF (n := 7) (r := 214) (k := 2) hx hb hown hin hK G (⟨RX6, TX6, 8, wsX6_init, tyX6, rfl, by decide, by decide, rfl, rfl, hts, hi, hts (.fieldLink RX6 18 "HillArms$Pages" "fitting" "[I") (by decide +kernel), tyX6_ok, nmX6, rfl, rfl, by decide +kernel⟩ : ha_FpF s ([.ref (ad 7), .int (1)] : List Value).toArray RX6 18 6 2 1 (.array .int)) (List.mem_append_left _ h0) h0k (List.mem_append_right _ (by simp)) ((a3 _ (List.mem_append_left _ h0)).trans ((a2 _ (List.mem_append_left _ h0)).trans ((a1 _ h0).trans rfl))) rfl rfl rfl dX6_init_36 (fun H locs G => ?_)
  refine lv_aload_n hx hb dX6_init_39 rfl (lv_at hl 0 rfl) ?_
  refine lv_aload_n hx hb dX6_init_40 rfl (lv_at hl 0 rfl) ?_
  refine gw_getr (n := 7) (r := 213) (k := 1) hx hb hown hK G (⟨RX6, TX6, 8, wsX6_init, rfl, by decide, by decide, rfl, rfl, hts, hi, hts (.fieldLink RX6 15 "HillArms$Pages" "wordAt" "[I") (by decide +kernel)⟩ : ha_Fk s ([.ref (ad 7), .int (1)] : List Value).toArray RX6 15 6 1 1) (List.mem_append_left _ h0) h0k ((a3 _ (List.mem_append_left _ h0)).trans ((a2 _ (List.mem_append_left _ h0)).trans ((a1 _ h0).trans rfl))) (by simp [st_RR, st_RI, st_RA, st_RB]) dX6_init_41 ?_
  refine gw_alen (n := 213) (ci := 100) hx hb hK G (List.mem_append_right _ (by simp)) (by decide +kernel) (by decide) (by decide) rfl dX6_init_44 ?_
  refine gw_newi hx hb (hts (.arrayClass .int) (by decide +kernel)) hK G (n := 215) (L := 31) (gw_nin (hL _ (by simp)) (by simp only [List.mem_cons, List.not_mem_nil, or_false]; omega)) (by decide +kernel) (by decide +kernel) (by decide +kernel) (by decide +kernel) (by decide) (Nat.le_of_ble_eq_true rfl) (Nat.le_of_ble_eq_true rfl) dX6_init_45 (fun ad4 H a4 G => ?_)
  have A4 : ∀ y, y ∈ N → ad4 y = ad y := fun y hy => (a4 y (List.mem_append_left _ hy)).trans (A3 y hy)
  rw [List.append_assoc] at G
  have G : gw_G D cs ad4 xo_kd xo_ln (N ++ [212, 213, 214, 215]) _ z0 s.heap H _ := G
  refine gw_putrF (n := 7) (r := 215) (k := 3) hx hb hown hin hK G (⟨RX6, TX6, 8, wsX6_init, tyX6, rfl, by decide, by decide, rfl, rfl, hts, hi, hts (.fieldLink RX6 21 "HillArms$Pages" "saved" "[I") (by decide +kernel), tyX6_ok, nmX6, rfl, rfl, by decide +kernel⟩ : ha_FpF s ([.ref (ad 7), .int (1)] : List Value).toArray RX6 21 6 3 1 (.array .int)) (List.mem_append_left _ h0) h0k (List.mem_append_right _ (by simp)) ((a4 _ (List.mem_append_left _ h0)).trans ((a3 _ (List.mem_append_left _ h0)).trans ((a2 _ (List.mem_append_left _ h0)).trans ((a1 _ h0).trans rfl)))) rfl rfl rfl dX6_init_47 (fun H locs G => ?_)
  exact gw_ret hx hb hr hlocks A4 G rfl dX6_init_50

def i_X6b (S : ha_St) : ha_St := (ha_sR (ha_sR (ha_sR (ha_sR S 8 0 (some 228)) 8 1 (some 229)) 8 2 (some 230)) 8 3 (some 231))
theorem ct_X6b {l : Launch} {D : va_G} {cs : Nat → ClassId} {ad : Nat → Nat} {N : List Nat} {z0 : Nat} {S : ha_St} (h0 : 8 ∈ N) (hL : ∀ x, x ∈ ([228, 229, 230, 231] : List Nat) → x ∉ N) : ct_Met l D cs ad xo_kd xo_ln N z0 yX6_init wsX6_init ({ frames := 1, cells := 4, slots := 1211, locals := 12 } : Room) [.ref (ad 8), .int (8)] S [228, 229, 230, 231] (i_X6b S) 4 1211 := by
  refine Met.ofW (cc := cX6_init) (maxL := 2) (ret := none) (by decide +kernel) rfl ?_
  intro p e s m args below meth c s₁ B hml hv
  obtain ⟨rfl, hP, hD, hK, hz, hNl, hC, hB⟩ := hv
  have hx := B.exec
  have hb := B.bytes
  have hr := B.returns
  have hts := atoms_spec (ws := wsX6_init) B.pre
  have hown : s.vm.findClass RX6 = some m.cls := findClass_of_methodNamed B.named
  have hlocks := B.notSynchronized
  have hin : meth.name = "<init>" := (name_of_methodNamed B.named B.method).1
  have hi : ∀ w ∈ wsX60, w ∈ wsX6_init := fun w h => List.mem_cons_of_mem _ (List.mem_append_right _ h)
  have h0k : xo_kd 8 = 6 := by decide +kernel
  have G : gw_G D cs ad xo_kd xo_ln N S z0 s.heap s.heap [] := ⟨hP, hD, va_S.rf, hC, hB, hz⟩
  have hl := lv_entry ([.ref (ad 8), .int (8)]) (n := 2) (Nat.le_of_ble_eq_true rfl)
  rw [lg_entry_eq]
  generalize (lg_sl ([.ref (ad 8), .int (8)]) ++ List.replicate (2 - (lg_sl ([.ref (ad 8), .int (8)])).length) Slot.unset).toArray = ls at hl ⊢
  have hl : lv_has ls 2 [(0, .ref (ad 8)), (1, .int (8))] := hl
  refine lv_aload_n hx hb dX6_init_0 rfl (lv_at hl 0 rfl) ?_
  refine W.objInit hx hb hown (hts (.methodLink RX6 3 objectInit) (by decide +kernel)) (hts (.instanceMethod objectInit) (by decide +kernel)) (hts _ (List.mem_cons_of_mem _ (List.mem_append_left _ (List.mem_of_getElem? (i := 2) rfl)))) rfl (by rw [hml]; exact hl.1) rfl dX6_init_1 (Nat.le_of_ble_eq_true rfl) (Nat.le_of_ble_eq_true rfl) ?_
  refine lv_aload_n hx hb dX6_init_4 rfl (lv_at hl 0 rfl) ?_
  refine lv_iload_n hx hb dX6_init_5 rfl (lv_at hl 1 rfl) ?_
  refine lv_bipush (v := 61) hx hb dX6_init_6 (by decide) ?_
  refine lv_imul hx hb dX6_init_8 ?_
  refine gw_newi hx hb (hts (.arrayClass .int) (by decide +kernel)) hK G (n := 228) (L := 488) (hL _ (by simp)) (by decide +kernel) (by decide +kernel) (by decide +kernel) (by decide +kernel) (by decide) (Nat.le_of_ble_eq_true rfl) (Nat.le_of_ble_eq_true rfl) dX6_init_9 (fun ad1 H a1 G => ?_)
  have A1 : ∀ y, y ∈ N → ad1 y = ad y := fun y hy => a1 y hy
  have G : gw_G D cs ad1 xo_kd xo_ln (N ++ [228]) _ z0 s.heap H _ := G
  refine gw_putrF (n := 8) (r := 228) (k := 0) hx hb hown hin hK G (⟨RX6, TX6, 8, wsX6_init, tyX6, rfl, by decide, by decide, rfl, rfl, hts, hi, hts (.fieldLink RX6 9 "HillArms$Pages" "text" "[I") (by decide +kernel), tyX6_ok, nmX6, rfl, rfl, by decide +kernel⟩ : ha_FpF s ([.ref (ad 8), .int (8)] : List Value).toArray RX6 9 6 0 1 (.array .int)) (List.mem_append_left _ h0) h0k (List.mem_append_right _ (by simp)) ((a1 _ h0).trans rfl) rfl rfl rfl dX6_init_11 (fun H locs G => ?_)
  refine lv_aload_n hx hb dX6_init_14 rfl (lv_at hl 0 rfl) ?_
  refine lv_iload_n hx hb dX6_init_15 rfl (lv_at hl 1 rfl) ?_
  refine lv_bipush (v := 60) hx hb dX6_init_16 (by decide) ?_
  refine lv_imul hx hb dX6_init_18 ?_
  refine lv_iconst (v := 2) hx hb dX6_init_19 (by decide) ?_
  refine lv_idiv hx hb dX6_init_20 (by decide) ?_
  refine lv_iconst (v := 1) hx hb dX6_init_21 (by decide) ?_
  refine lv_iadd hx hb dX6_init_22 ?_
  refine gw_newi hx hb (hts (.arrayClass .int) (by decide +kernel)) hK G (n := 229) (L := 241) (gw_nin (hL _ (by simp)) (by simp only [List.mem_cons, List.not_mem_nil, or_false]; omega)) (by decide +kernel) (by decide +kernel) (by decide +kernel) (by decide +kernel) (by decide) (Nat.le_of_ble_eq_true rfl) (Nat.le_of_ble_eq_true rfl) dX6_init_23 (fun ad2 H a2 G => ?_)
  have A2 : ∀ y, y ∈ N → ad2 y = ad y := fun y hy => (a2 y (List.mem_append_left _ hy)).trans (A1 y hy)
  rw [List.append_assoc] at G
  have G : gw_G D cs ad2 xo_kd xo_ln (N ++ [228, 229]) _ z0 s.heap H _ := G
  refine gw_putrF (n := 8) (r := 229) (k := 1) hx hb hown hin hK G (⟨RX6, TX6, 8, wsX6_init, tyX6, rfl, by decide, by decide, rfl, rfl, hts, hi, hts (.fieldLink RX6 15 "HillArms$Pages" "wordAt" "[I") (by decide +kernel), tyX6_ok, nmX6, rfl, rfl, by decide +kernel⟩ : ha_FpF s ([.ref (ad 8), .int (8)] : List Value).toArray RX6 15 6 1 1 (.array .int)) (List.mem_append_left _ h0) h0k (List.mem_append_right _ (by simp)) ((a2 _ (List.mem_append_left _ h0)).trans ((a1 _ h0).trans rfl)) rfl rfl rfl dX6_init_25 (fun H locs G => ?_)
  refine lv_aload_n hx hb dX6_init_28 rfl (lv_at hl 0 rfl) ?_
  refine lv_aload_n hx hb dX6_init_29 rfl (lv_at hl 0 rfl) ?_
  refine gw_getr (n := 8) (r := 229) (k := 1) hx hb hown hK G (⟨RX6, TX6, 8, wsX6_init, rfl, by decide, by decide, rfl, rfl, hts, hi, hts (.fieldLink RX6 15 "HillArms$Pages" "wordAt" "[I") (by decide +kernel)⟩ : ha_Fk s ([.ref (ad 8), .int (8)] : List Value).toArray RX6 15 6 1 1) (List.mem_append_left _ h0) h0k ((a2 _ (List.mem_append_left _ h0)).trans ((a1 _ h0).trans rfl)) (by simp [st_RR, st_RI, st_RA, st_RB]) dX6_init_30 ?_
  refine gw_alen (n := 229) (ci := 100) hx hb hK G (List.mem_append_right _ (by simp)) (by decide +kernel) (by decide) (by decide) rfl dX6_init_33 ?_
  refine gw_newi hx hb (hts (.arrayClass .int) (by decide +kernel)) hK G (n := 230) (L := 241) (gw_nin (hL _ (by simp)) (by simp only [List.mem_cons, List.not_mem_nil, or_false]; omega)) (by decide +kernel) (by decide +kernel) (by decide +kernel) (by decide +kernel) (by decide) (Nat.le_of_ble_eq_true rfl) (Nat.le_of_ble_eq_true rfl) dX6_init_34 (fun ad3 H a3 G => ?_)
  have A3 : ∀ y, y ∈ N → ad3 y = ad y := fun y hy => (a3 y (List.mem_append_left _ hy)).trans (A2 y hy)
  rw [List.append_assoc] at G
  have G : gw_G D cs ad3 xo_kd xo_ln (N ++ [228, 229, 230]) _ z0 s.heap H _ := G
  refine gw_putrF (n := 8) (r := 230) (k := 2) hx hb hown hin hK G (⟨RX6, TX6, 8, wsX6_init, tyX6, rfl, by decide, by decide, rfl, rfl, hts, hi, hts (.fieldLink RX6 18 "HillArms$Pages" "fitting" "[I") (by decide +kernel), tyX6_ok, nmX6, rfl, rfl, by decide +kernel⟩ : ha_FpF s ([.ref (ad 8), .int (8)] : List Value).toArray RX6 18 6 2 1 (.array .int)) (List.mem_append_left _ h0) h0k (List.mem_append_right _ (by simp)) ((a3 _ (List.mem_append_left _ h0)).trans ((a2 _ (List.mem_append_left _ h0)).trans ((a1 _ h0).trans rfl))) rfl rfl rfl dX6_init_36 (fun H locs G => ?_)
  refine lv_aload_n hx hb dX6_init_39 rfl (lv_at hl 0 rfl) ?_
  refine lv_aload_n hx hb dX6_init_40 rfl (lv_at hl 0 rfl) ?_
  refine gw_getr (n := 8) (r := 229) (k := 1) hx hb hown hK G (⟨RX6, TX6, 8, wsX6_init, rfl, by decide, by decide, rfl, rfl, hts, hi, hts (.fieldLink RX6 15 "HillArms$Pages" "wordAt" "[I") (by decide +kernel)⟩ : ha_Fk s ([.ref (ad 8), .int (8)] : List Value).toArray RX6 15 6 1 1) (List.mem_append_left _ h0) h0k ((a3 _ (List.mem_append_left _ h0)).trans ((a2 _ (List.mem_append_left _ h0)).trans ((a1 _ h0).trans rfl))) (by simp [st_RR, st_RI, st_RA, st_RB]) dX6_init_41 ?_
  refine gw_alen (n := 229) (ci := 100) hx hb hK G (List.mem_append_right _ (by simp)) (by decide +kernel) (by decide) (by decide) rfl dX6_init_44 ?_
  refine gw_newi hx hb (hts (.arrayClass .int) (by decide +kernel)) hK G (n := 231) (L := 241) (gw_nin (hL _ (by simp)) (by simp only [List.mem_cons, List.not_mem_nil, or_false]; omega)) (by decide +kernel) (by decide +kernel) (by decide +kernel) (by decide +kernel) (by decide) (Nat.le_of_ble_eq_true rfl) (Nat.le_of_ble_eq_true rfl) dX6_init_45 (fun ad4 H a4 G => ?_)
  have A4 : ∀ y, y ∈ N → ad4 y = ad y := fun y hy => (a4 y (List.mem_append_left _ hy)).trans (A3 y hy)
  rw [List.append_assoc] at G
  have G : gw_G D cs ad4 xo_kd xo_ln (N ++ [228, 229, 230, 231]) _ z0 s.heap H _ := G
  refine gw_putrF (n := 8) (r := 231) (k := 3) hx hb hown hin hK G (⟨RX6, TX6, 8, wsX6_init, tyX6, rfl, by decide, by decide, rfl, rfl, hts, hi, hts (.fieldLink RX6 21 "HillArms$Pages" "saved" "[I") (by decide +kernel), tyX6_ok, nmX6, rfl, rfl, by decide +kernel⟩ : ha_FpF s ([.ref (ad 8), .int (8)] : List Value).toArray RX6 21 6 3 1 (.array .int)) (List.mem_append_left _ h0) h0k (List.mem_append_right _ (by simp)) ((a4 _ (List.mem_append_left _ h0)).trans ((a3 _ (List.mem_append_left _ h0)).trans ((a2 _ (List.mem_append_left _ h0)).trans ((a1 _ h0).trans rfl)))) rfl rfl rfl dX6_init_47 (fun H locs G => ?_)
  exact gw_ret hx hb hr hlocks A4 G rfl dX6_init_50

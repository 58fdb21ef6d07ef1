/-! THE BREAKER'S CONSTRUCTOR -/
def lnL (b j : Nat) : List Nat := (List.range j).flatMap (fun i => [b + i, 100 + 16 * (b + i), 101 + 16 * (b + i), 102 + 16 * (b + i), 103 + 16 * (b + i)])
theorem lnL_s (b j : Nat) : lnL b (j + 1) = lnL b j ++ [b + j, 100 + 16 * (b + j), 101 + 16 * (b + j), 102 + 16 * (b + j), 103 + 16 * (b + j)] := by
  unfold lnL
  rw [List.range_succ, List.flatMap_append]
  rfl
theorem lnL_m {b j x : Nat} : x ∈ lnL b j ↔ ∃ i, i < j ∧ (x = b + i ∨ x = 100 + 16 * (b + i) ∨ x = 101 + 16 * (b + i) ∨ x = 102 + 16 * (b + i) ∨ x = 103 + 16 * (b + i)) := by
  simp [lnL, List.mem_flatMap]
def i_lns (b arr : Nat) (S : ha_St) : Nat → ha_St
  | 0 => S
  | j + 1 => ha_sB (i_X5 (b + j) (i_lns b arr S j)) arr (va_up (ha_gB (i_X5 (b + j) (i_lns b arr S j)) arr) j (some (b + j)))
theorem i_lns_R {b arr : Nat} {S : ha_St} (hb : 5 < b) {k : Nat} : ∀ {j : Nat}, ha_gR (i_lns b arr S j) 5 k = ha_gR S 5 k
  | 0 => rfl
  | j + 1 => by
    show ha_gR (i_X5 (b + j) (i_lns b arr S j)) 5 k = _
    unfold i_X5
    rw [st_RI, st_RR, if_neg (by omega), st_RR, if_neg (by omega), st_RR, if_neg (by omega), st_RR, if_neg (by omega)]
    exact i_lns_R hb
theorem X0_inKA {x j : Nat} (hx : x = 20 + j ∨ x = 100 + 16 * (20 + j) ∨ x = 101 + 16 * (20 + j) ∨ x = 102 + 16 * (20 + j) ∨ x = 103 + 16 * (20 + j)) (hj : j < 61) : x ∈ ([180, 181, 17, (100 + 16 * 17), (101 + 16 * 17), (102 + 16 * 17), (103 + 16 * 17), 183, 184, 188, 189] ++ (lnL 20 61 ++ lnL 81 11)) := List.mem_append_right _ (List.mem_append_left _ (lnL_m.mpr ⟨j, hj, hx⟩))
theorem X0_inKB {x j : Nat} (hx : x = 81 + j ∨ x = 100 + 16 * (81 + j) ∨ x = 101 + 16 * (81 + j) ∨ x = 102 + 16 * (81 + j) ∨ x = 103 + 16 * (81 + j)) (hj : j < 11) : x ∈ ([180, 181, 17, (100 + 16 * 17), (101 + 16 * 17), (102 + 16 * 17), (103 + 16 * 17), 183, 184, 188, 189] ++ (lnL 20 61 ++ lnL 81 11)) := List.mem_append_right _ (List.mem_append_right _ (lnL_m.mpr ⟨j, hj, hx⟩))
theorem X0_niKA {x j : Nat} (hx : x = 20 + j ∨ x = 100 + 16 * (20 + j) ∨ x = 101 + 16 * (20 + j) ∨ x = 102 + 16 * (20 + j) ∨ x = 103 + 16 * (20 + j)) (hj : j < 61) : x ∉ [180, 181, 17, (100 + 16 * 17), (101 + 16 * 17), (102 + 16 * 17), (103 + 16 * 17), 183, 184, 188, 189] ++ lnL 20 j := gw_nin (by simp only [List.mem_cons, List.not_mem_nil, or_false]; omega) (fun h => by
  obtain ⟨i, h1, h2⟩ := lnL_m.mp h
  omega)
theorem X0_niKB {x j : Nat} (hx : x = 81 + j ∨ x = 100 + 16 * (81 + j) ∨ x = 101 + 16 * (81 + j) ∨ x = 102 + 16 * (81 + j) ∨ x = 103 + 16 * (81 + j)) (hj : j < 11) : x ∉ ([180, 181, 17, (100 + 16 * 17), (101 + 16 * 17), (102 + 16 * 17), (103 + 16 * 17), 183, 184, 188, 189] ++ lnL 20 61) ++ lnL 81 j := gw_nin (gw_nin (by simp only [List.mem_cons, List.not_mem_nil, or_false]; omega) (fun h => by
  obtain ⟨i, h1, h2⟩ := lnL_m.mp h
  omega)) (fun h => by
  obtain ⟨i, h1, h2⟩ := lnL_m.mp h
  omega)
def i_X0a (S : ha_St) : ha_St := (ha_sI (ha_sR (ha_sR (ha_sR (ha_sR (ha_sR (i_X5 17 (ha_sR (ha_sR S 5 0 (some 180)) 5 1 (some 181))) 5 2 (some 17)) 5 3 (some 183)) 5 4 (some 184)) 5 8 (some 188)) 5 9 (some 189)) 5 10 (-1))
def i_X0 (S : ha_St) : ha_St := (i_lns 81 181 (i_lns 20 180 (i_X0a S) 61) 11)
theorem ct_X0 {l : Launch} {D : va_G} {cs : Nat → ClassId} {ad : Nat → Nat} {N : List Nat} {z0 : Nat} {S : ha_St} (h0 : 5 ∈ N) (hL : ∀ x, x ∈ (([180, 181, 17, (100 + 16 * 17), (101 + 16 * 17), (102 + 16 * 17), (103 + 16 * 17), 183, 184, 188, 189] ++ (lnL 20 61 ++ lnL 81 11)) : List Nat) → x ∉ N) : ct_Met l D cs ad xo_kd xo_ln N z0 yX0_init wsX0_init ({ frames := 2, cells := 371, slots := 4304, locals := 34 } : Room) [.ref (ad 5)] S ([180, 181, 17, (100 + 16 * 17), (101 + 16 * 17), (102 + 16 * 17), (103 + 16 * 17), 183, 184, 188, 189] ++ (lnL 20 61 ++ lnL 81 11)) (i_X0 S) 371 4304 := by
  refine Met.ofW (cc := cX0_init) (maxL := 2) (ret := none) (by decide +kernel) rfl ?_
  intro p e s m args below meth c s₁ B hml hv
  obtain ⟨rfl, hP, hD, hK, hz, hNl, hC, hB⟩ := hv
  have hx := B.exec
  have hb := B.bytes
  have hr := B.returns
  have hts := atoms_spec (ws := wsX0_init) B.pre
  have hown : s.vm.findClass RX0 = some m.cls := findClass_of_methodNamed B.named
  have hlocks := B.notSynchronized
  have hin : meth.name = "<init>" := (name_of_methodNamed B.named B.method).1
  have hi : ∀ w ∈ wsX00, w ∈ wsX0_init := fun w h => List.mem_cons_of_mem _ (List.mem_append_left _ (List.mem_append_right _ h))
  have h0k : xo_kd 5 = 0 := by decide +kernel
  have G : gw_G D cs ad xo_kd xo_ln N S z0 s.heap s.heap [] := ⟨hP, hD, va_S.rf, hC, hB, hz⟩
  have hl := lv_entry ([.ref (ad 5)]) (n := 2) (Nat.le_of_ble_eq_true rfl)
  rw [lg_entry_eq]
  generalize (lg_sl ([.ref (ad 5)]) ++ List.replicate (2 - (lg_sl ([.ref (ad 5)])).length) Slot.unset).toArray = ls at hl ⊢
  have hl : lv_has ls 2 [(0, .ref (ad 5))] := hl
  refine lv_aload_n hx hb dX0_init_0 rfl (lv_at hl 0 rfl) ?_
  refine W.objInit hx hb hown (hts (.methodLink RX0 3 objectInit) (by decide +kernel)) (hts (.instanceMethod objectInit) (by decide +kernel)) (hts _ (List.mem_cons_of_mem _ (List.mem_append_left _ (List.mem_append_left _ (List.mem_of_getElem? (i := 2) rfl))))) rfl (by rw [hml]; exact hl.1) rfl dX0_init_1 (Nat.le_of_ble_eq_true rfl) (Nat.le_of_ble_eq_true rfl) ?_
  show W p l e _ s m _ below meth c _ _ _ _ _ (F0 m 4 ls [])
  refine lv_aload_n hx hb dX0_init_4 rfl (lv_at hl 0 rfl) ?_
  refine lv_bipush (v := 61) hx hb dX0_init_5 (by decide) ?_
  refine gw_newq (t0 := 2) (kq := 102) hx hb hown (hts (.classLink RX0 9 RX5) (by decide +kernel)) hNl.2.2.2.2.2.2.2.2.1 hK G (n := 180) (L := 61) (hL _ (List.mem_append_left _ (by simp))) (by decide +kernel) (by decide) rfl (by decide +kernel) (by decide) (by decide) (by decide) (Nat.le_of_ble_eq_true rfl) (Nat.le_of_ble_eq_true rfl) dX0_init_7 (fun ad1 H a1 G => ?_)
  have A1 : ∀ y, y ∈ N → ad1 y = ad y := fun y hy => a1 y hy
  have G : gw_G D cs ad1 xo_kd xo_ln (N ++ [180]) _ z0 s.heap H _ := G
  refine gw_putrF (n := 5) (r := 180) (k := 0) hx hb hown hin hK G (⟨RX0, TX0, 11, wsX0_init, tyX0, rfl, by decide, by decide, rfl, rfl, hts, hi, hts (.fieldLink RX0 11 "HillArms$Breaker" "calm" "[LHillArms$Line;") (by decide +kernel), tyX0_ok, nmX0, rfl, rfl, by decide +kernel⟩ : ha_FpF s ([.ref (ad 5)] : List Value).toArray RX0 11 0 0 1 (.array (.object "HillArms$Line"))) (List.mem_append_left _ h0) h0k (List.mem_append_right _ (by simp)) ((a1 _ h0).trans rfl) rfl rfl rfl dX0_init_10 (fun H locs G => ?_)
  refine lv_aload_n hx hb dX0_init_13 rfl (lv_at hl 0 rfl) ?_
  refine lv_bipush (v := 11) hx hb dX0_init_14 (by decide) ?_
  refine gw_newq (t0 := 2) (kq := 102) hx hb hown (hts (.classLink RX0 9 RX5) (by decide +kernel)) hNl.2.2.2.2.2.2.2.2.1 hK G (n := 181) (L := 11) (gw_nin (hL _ (List.mem_append_left _ (by simp))) (by simp only [List.mem_cons, List.not_mem_nil, or_false]; omega)) (by decide +kernel) (by decide) rfl (by decide +kernel) (by decide) (by decide) (by decide) (Nat.le_of_ble_eq_true rfl) (Nat.le_of_ble_eq_true rfl) dX0_init_16 (fun ad2 H a2 G => ?_)
  have A2 : ∀ y, y ∈ N → ad2 y = ad y := fun y hy => (a2 y (List.mem_append_left _ hy)).trans (A1 y hy)
  rw [List.append_assoc] at G
  have G : gw_G D cs ad2 xo_kd xo_ln (N ++ [180, 181]) _ z0 s.heap H _ := G
  refine gw_putrF (n := 5) (r := 181) (k := 1) hx hb hown hin hK G (⟨RX0, TX0, 11, wsX0_init, tyX0, rfl, by decide, by decide, rfl, rfl, hts, hi, hts (.fieldLink RX0 17 "HillArms$Breaker" "once" "[LHillArms$Line;") (by decide +kernel), tyX0_ok, nmX0, rfl, rfl, by decide +kernel⟩ : ha_FpF s ([.ref (ad 5)] : List Value).toArray RX0 17 0 1 1 (.array (.object "HillArms$Line"))) (List.mem_append_left _ h0) h0k (List.mem_append_right _ (by simp)) ((a2 _ (List.mem_append_left _ h0)).trans ((a1 _ h0).trans rfl)) rfl rfl rfl dX0_init_19 (fun H locs G => ?_)
  refine lv_aload_n hx hb dX0_init_22 rfl (lv_at hl 0 rfl) ?_
  refine gw_new (ci := 5) (Ts := wsX0_init) hx hb hts (fun w h => List.mem_cons_of_mem _ (List.mem_append_right _ h)) tyX5 tyX5_ok hown (hts (.classLink RX0 9 RX5) (by decide +kernel)) (hts (.instantiable RX5 8) (by decide +kernel)) (hts (.initialized RX5) (by decide +kernel)) hK G (n := 17) (gw_nin (hL _ (List.mem_append_left _ (by simp))) (by simp only [List.mem_cons, List.not_mem_nil, or_false]; omega)) (by decide +kernel) (by decide) rfl rfl df_X5 (Nat.le_of_ble_eq_true rfl) (Nat.le_of_ble_eq_true rfl) dX0_init_23 (fun ad3 H a3 G => ?_)
  have A3 : ∀ y, y ∈ N → ad3 y = ad y := fun y hy => (a3 y (List.mem_append_left _ hy)).trans (A2 y hy)
  rw [List.append_assoc] at G
  have G : gw_G D cs ad3 xo_kd xo_ln (N ++ [180, 181, 17]) _ z0 s.heap H _ := G
  refine lv_dup hx hb dX0_init_26 rfl ?_
  refine lv_bipush (v := 8) hx hb dX0_init_27 (by decide) ?_
  refine lv_iconst (v := 0) hx hb dX0_init_29 (by decide) ?_
  refine gw_call (As := [.int (8), .int (0)]) (rest := [.ref (ad3 17), .ref (ad 5)]) (b := (ad3 17)) (L := [(100 + 16 * 17), (101 + 16 * 17), (102 + 16 * 17), (103 + 16 * 17)]) ⟨hx, hb, hml, hown, hts⟩ hK hNl G (by rw [show ((ad3 17) : Nat) = ad3 17 from rfl.symm]; exact (ct_X5 (p0 := 17) (by unfold isLn; omega) (by omega) (List.mem_append_right _ (by simp)) (fun x hx => gw_nin (hL x (List.mem_append_left _ (by simp only [List.mem_cons, List.not_mem_nil, or_false] at hx ⊢; omega))) (by simp only [List.mem_cons, List.not_mem_nil, or_false] at hx ⊢; omega)))) (cwI 2 hts gX0_init_X5_init (rm := ({ frames := 1, cells := 4, slots := 48, locals := 12 } : Room)) (mc := 4) (ms := 48) rfl rfl rfl (hts (.initialized RX5) (by decide +kernel)) (hts (.methodLink RX0 20 yX5_init) (by decide +kernel)) (hts (.instanceMethod yX5_init) (by decide +kernel)) rfl (by decide +kernel) ⟨Nat.le_of_ble_eq_true rfl, Nat.le_of_ble_eq_true rfl⟩) rfl hl.1 rfl (Nat.le_of_ble_eq_true rfl) dX0_init_30 ⟨Nat.le_of_ble_eq_true rfl, Nat.le_of_ble_eq_true rfl⟩ (fun ad4 H locs a4 G => ?_)
  have A4 : ∀ y, y ∈ N → ad4 y = ad y := fun y hy => (a4 y (List.mem_append_left _ hy)).trans (A3 y hy)
  rw [List.append_assoc] at G
  have G : gw_G D cs ad4 xo_kd xo_ln (N ++ [180, 181, 17, (100 + 16 * 17), (101 + 16 * 17), (102 + 16 * 17), (103 + 16 * 17)]) _ z0 s.heap H _ := G
  refine gw_putrF (n := 5) (r := 17) (k := 2) hx hb hown hin hK G (⟨RX0, TX0, 11, wsX0_init, tyX0, rfl, by decide, by decide, rfl, rfl, hts, hi, hts (.fieldLink RX0 23 "HillArms$Breaker" "tried" "LHillArms$Line;") (by decide +kernel), tyX0_ok, nmX0, rfl, rfl, by decide +kernel⟩ : ha_FpF s ([.ref (ad 5)] : List Value).toArray RX0 23 0 2 1 (.object "HillArms$Line")) (List.mem_append_left _ h0) h0k (List.mem_append_right _ (by simp)) ((a4 _ (List.mem_append_left _ h0)).trans ((a3 _ (List.mem_append_left _ h0)).trans ((a2 _ (List.mem_append_left _ h0)).trans ((a1 _ h0).trans rfl)))) ((a4 _ (List.mem_append_right _ (by simp))).trans rfl) rfl rfl dX0_init_33 (fun H locs G => ?_)
  refine lv_aload_n hx hb dX0_init_36 rfl (lv_at hl 0 rfl) ?_
  refine lv_bipush (v := 70) hx hb dX0_init_37 (by decide) ?_
  refine gw_newi hx hb (hts (.arrayClass .int) (by decide +kernel)) hK G (n := 183) (L := 70) (gw_nin (hL _ (List.mem_append_left _ (by simp))) (by simp only [List.mem_cons, List.not_mem_nil, or_false]; omega)) (by decide +kernel) (by decide +kernel) (by decide +kernel) (by decide +kernel) (by decide) (Nat.le_of_ble_eq_true rfl) (Nat.le_of_ble_eq_true rfl) dX0_init_39 (fun ad5 H a5 G => ?_)
  have A5 : ∀ y, y ∈ N → ad5 y = ad y := fun y hy => (a5 y (List.mem_append_left _ hy)).trans (A4 y hy)
  rw [List.append_assoc] at G
  have G : gw_G D cs ad5 xo_kd xo_ln (N ++ [180, 181, 17, (100 + 16 * 17), (101 + 16 * 17), (102 + 16 * 17), (103 + 16 * 17), 183]) _ z0 s.heap H _ := G
  refine gw_putrF (n := 5) (r := 183) (k := 3) hx hb hown hin hK G (⟨RX0, TX0, 11, wsX0_init, tyX0, rfl, by decide, by decide, rfl, rfl, hts, hi, hts (.fieldLink RX0 27 "HillArms$Breaker" "singleTick" "[I") (by decide +kernel), tyX0_ok, nmX0, rfl, rfl, by decide +kernel⟩ : ha_FpF s ([.ref (ad 5)] : List Value).toArray RX0 27 0 3 1 (.array .int)) (List.mem_append_left _ h0) h0k (List.mem_append_right _ (by simp)) ((a5 _ (List.mem_append_left _ h0)).trans ((a4 _ (List.mem_append_left _ h0)).trans ((a3 _ (List.mem_append_left _ h0)).trans ((a2 _ (List.mem_append_left _ h0)).trans ((a1 _ h0).trans rfl))))) rfl rfl rfl dX0_init_41 (fun H locs G => ?_)
  refine lv_aload_n hx hb dX0_init_44 rfl (lv_at hl 0 rfl) ?_
  refine lv_bipush (v := 70) hx hb dX0_init_45 (by decide) ?_
  refine gw_newi hx hb (hts (.arrayClass .int) (by decide +kernel)) hK G (n := 184) (L := 70) (gw_nin (hL _ (List.mem_append_left _ (by simp))) (by simp only [List.mem_cons, List.not_mem_nil, or_false]; omega)) (by decide +kernel) (by decide +kernel) (by decide +kernel) (by decide +kernel) (by decide) (Nat.le_of_ble_eq_true rfl) (Nat.le_of_ble_eq_true rfl) dX0_init_47 (fun ad6 H a6 G => ?_)
  have A6 : ∀ y, y ∈ N → ad6 y = ad y := fun y hy => (a6 y (List.mem_append_left _ hy)).trans (A5 y hy)
  rw [List.append_assoc] at G
  have G : gw_G D cs ad6 xo_kd xo_ln (N ++ [180, 181, 17, (100 + 16 * 17), (101 + 16 * 17), (102 + 16 * 17), (103 + 16 * 17), 183, 184]) _ z0 s.heap H _ := G
  refine gw_putrF (n := 5) (r := 184) (k := 4) hx hb hown hin hK G (⟨RX0, TX0, 11, wsX0_init, tyX0, rfl, by decide, by decide, rfl, rfl, hts, hi, hts (.fieldLink RX0 31 "HillArms$Breaker" "singleGap" "[I") (by decide +kernel), tyX0_ok, nmX0, rfl, rfl, by decide +kernel⟩ : ha_FpF s ([.ref (ad 5)] : List Value).toArray RX0 31 0 4 1 (.array .int)) (List.mem_append_left _ h0) h0k (List.mem_append_right _ (by simp)) ((a6 _ (List.mem_append_left _ h0)).trans ((a5 _ (List.mem_append_left _ h0)).trans ((a4 _ (List.mem_append_left _ h0)).trans ((a3 _ (List.mem_append_left _ h0)).trans ((a2 _ (List.mem_append_left _ h0)).trans ((a1 _ h0).trans rfl)))))) rfl rfl rfl dX0_init_49 (fun H locs G => ?_)
  refine lv_aload_n hx hb dX0_init_52 rfl (lv_at hl 0 rfl) ?_
  refine lv_iconst (v := 2) hx hb dX0_init_53 (by decide) ?_
  refine gw_newi hx hb (hts (.arrayClass .int) (by decide +kernel)) hK G (n := 188) (L := 2) (gw_nin (hL _ (List.mem_append_left _ (by simp))) (by simp only [List.mem_cons, List.not_mem_nil, or_false]; omega)) (by decide +kernel) (by decide +kernel) (by decide +kernel) (by decide +kernel) (by decide) (Nat.le_of_ble_eq_true rfl) (Nat.le_of_ble_eq_true rfl) dX0_init_54 (fun ad7 H a7 G => ?_)
  have A7 : ∀ y, y ∈ N → ad7 y = ad y := fun y hy => (a7 y (List.mem_append_left _ hy)).trans (A6 y hy)
  rw [List.append_assoc] at G
  have G : gw_G D cs ad7 xo_kd xo_ln (N ++ [180, 181, 17, (100 + 16 * 17), (101 + 16 * 17), (102 + 16 * 17), (103 + 16 * 17), 183, 184, 188]) _ z0 s.heap H _ := G
  refine gw_putrF (n := 5) (r := 188) (k := 8) hx hb hown hin hK G (⟨RX0, TX0, 11, wsX0_init, tyX0, rfl, by decide, by decide, rfl, rfl, hts, hi, hts (.fieldLink RX0 34 "HillArms$Breaker" "foundTick" "[I") (by decide +kernel), tyX0_ok, nmX0, rfl, rfl, by decide +kernel⟩ : ha_FpF s ([.ref (ad 5)] : List Value).toArray RX0 34 0 8 1 (.array .int)) (List.mem_append_left _ h0) h0k (List.mem_append_right _ (by simp)) ((a7 _ (List.mem_append_left _ h0)).trans ((a6 _ (List.mem_append_left _ h0)).trans ((a5 _ (List.mem_append_left _ h0)).trans ((a4 _ (List.mem_append_left _ h0)).trans ((a3 _ (List.mem_append_left _ h0)).trans ((a2 _ (List.mem_append_left _ h0)).trans ((a1 _ h0).trans rfl))))))) rfl rfl rfl dX0_init_56 (fun H locs G => ?_)
  refine lv_aload_n hx hb dX0_init_59 rfl (lv_at hl 0 rfl) ?_
  refine lv_iconst (v := 2) hx hb dX0_init_60 (by decide) ?_
  refine gw_newi hx hb (hts (.arrayClass .int) (by decide +kernel)) hK G (n := 189) (L := 2) (gw_nin (hL _ (List.mem_append_left _ (by simp))) (by simp only [List.mem_cons, List.not_mem_nil, or_false]; omega)) (by decide +kernel) (by decide +kernel) (by decide +kernel) (by decide +kernel) (by decide) (Nat.le_of_ble_eq_true rfl) (Nat.le_of_ble_eq_true rfl) dX0_init_61 (fun ad8 H a8 G => ?_)
  have A8 : ∀ y, y ∈ N → ad8 y = ad y := fun y hy => (a8 y (List.mem_append_left _ hy)).trans (A7 y hy)
  rw [List.append_assoc] at G
  have G : gw_G D cs ad8 xo_kd xo_ln (N ++ [180, 181, 17, (100 + 16 * 17), (101 + 16 * 17), (102 + 16 * 17), (103 + 16 * 17), 183, 184, 188, 189]) _ z0 s.heap H _ := G
  refine gw_putrF (n := 5) (r := 189) (k := 9) hx hb hown hin hK G (⟨RX0, TX0, 11, wsX0_init, tyX0, rfl, by decide, by decide, rfl, rfl, hts, hi, hts (.fieldLink RX0 37 "HillArms$Breaker" "foundGap" "[I") (by decide +kernel), tyX0_ok, nmX0, rfl, rfl, by decide +kernel⟩ : ha_FpF s ([.ref (ad 5)] : List Value).toArray RX0 37 0 9 1 (.array .int)) (List.mem_append_left _ h0) h0k (List.mem_append_right _ (by simp)) ((a8 _ (List.mem_append_left _ h0)).trans ((a7 _ (List.mem_append_left _ h0)).trans ((a6 _ (List.mem_append_left _ h0)).trans ((a5 _ (List.mem_append_left _ h0)).trans ((a4 _ (List.mem_append_left _ h0)).trans ((a3 _ (List.mem_append_left _ h0)).trans ((a2 _ (List.mem_append_left _ h0)).trans ((a1 _ h0).trans rfl)))))))) rfl rfl rfl dX0_init_63 (fun H locs G => ?_)
  refine lv_aload_n hx hb dX0_init_66 rfl (lv_at hl 0 rfl) ?_
  refine lv_iconst (v := -1) hx hb dX0_init_67 (by decide) ?_
  refine gw_puti (n := 5) (k := 10) hx hb hown hK G (⟨RX0, TX0, 11, wsX0_init, tyX0, rfl, by decide, by decide, rfl, rfl, hts, hi, hts (.fieldLink RX0 40 "HillArms$Breaker" "found" "I") (by decide +kernel), tyX0_ok, nmX0, rfl, by decide +kernel⟩ : ha_Fp s ([.ref (ad 5)] : List Value).toArray RX0 40 0 10 0 .int) (List.mem_append_left _ h0) h0k ((a8 _ (List.mem_append_left _ h0)).trans ((a7 _ (List.mem_append_left _ h0)).trans ((a6 _ (List.mem_append_left _ h0)).trans ((a5 _ (List.mem_append_left _ h0)).trans ((a4 _ (List.mem_append_left _ h0)).trans ((a3 _ (List.mem_append_left _ h0)).trans ((a2 _ (List.mem_append_left _ h0)).trans ((a1 _ h0).trans rfl)))))))) dX0_init_68 (fun H locs G => ?_)
  refine lv_iconst (v := 0) hx hb dX0_init_71 (by decide) ?_
  refine lv_istore_n (lv' := [(1, .int (0)), (0, .ref (ad 5))]) hx hb dX0_init_72 rfl hl (by decide) rfl (fun ls hl => ?_)
  have G : gw_G D cs ad8 xo_kd xo_ln (N ++ ([180, 181, 17, (100 + 16 * 17), (101 + 16 * 17), (102 + 16 * 17), (103 + 16 * 17), 183, 184, 188, 189] ++ lnL 20 0)) (i_lns 20 180 (i_X0a S) 0) z0 s.heap H locs := by rw [show lnL 20 0 = [] from rfl, List.append_nil]; exact G
  have hr0 : ha_gR (i_X0a S) 5 0 = some 180 := by simp [i_X0a, i_X5, st_RR, st_RI, st_RA, st_RB]
  have hr1b : ha_gR (i_X0a S) 5 1 = some 181 := by simp [i_X0a, i_X5, st_RR, st_RI, st_RA, st_RB]
  have hr1 : ha_gR (i_lns 20 180 (i_X0a S) 61) 5 1 = some 181 := by rw [i_lns_R (by omega)]; exact hr1b
  have KB : ∀ (d j : Nat) (adj : Nat → Nat) (H : Heap) (locs : List Loc) (ls : Array Slot), j + d = 11 → (∀ y, y ∈ N → adj y = ad y) → gw_G D cs adj xo_kd xo_ln (N ++ (([180, 181, 17, (100 + 16 * 17), (101 + 16 * 17), (102 + 16 * 17), (103 + 16 * 17), 183, 184, 188, 189] ++ lnL 20 61) ++ lnL 81 j)) (i_lns 81 181 (i_lns 20 180 (i_X0a S) 61) j) z0 s.heap H locs → lv_has ls 2 [(1, .int (nI j)), (0, .ref (ad 5))] → W p l e (headSpec wsX0_init ({ frames := 2, cells := 371, slots := 4304, locals := 34 } : Room)).room s m ([.ref (ad 5)] : List Value).toArray below meth c H locs (316 + 5 * j) (3688 + 56 * j) (MQ below (va_Qv (fun (ad1 : Nat → Nat) => (∀ y, y ∈ N → ad1 y = ad y) ∧ gw_C (N ++ ([180, 181, 17, (100 + 16 * 17), (101 + 16 * 17), (102 + 16 * 17), (103 + 16 * 17), 183, 184, 188, 189] ++ (lnL 20 61 ++ lnL 81 11))) (i_X0 S) ∧ gw_B (N ++ ([180, 181, 17, (100 + 16 * 17), (101 + 16 * 17), (102 + 16 * 17), (103 + 16 * 17), 183, 184, 188, 189] ++ (lnL 20 61 ++ lnL 81 11))) (i_X0 S)) (fun ad1 t => va_P D vwCl (ha_wl cs ad1 xo_kd xo_ln (N ++ ([180, 181, 17, (100 + 16 * 17), (101 + 16 * 17), (102 + 16 * 17), (103 + 16 * 17), 183, 184, 188, 189] ++ (lnL 20 61 ++ lnL 81 11))) (i_X0 S)) t.heap ∧ va_D (fun q => z0 ≤ q) (ha_wl cs ad1 xo_kd xo_ln (N ++ ([180, 181, 17, (100 + 16 * 17), (101 + 16 * 17), (102 + 16 * 17), (103 + 16 * 17), 183, 184, 188, 189] ++ (lnL 20 61 ++ lnL 81 11))) (i_X0 S))) (fun q => z0 ≤ q)) ([.ref (ad 5)] : List Value).toArray s 371 4304 (fun q => z0 ≤ q)) (F0 m 106 ls []) := by
    intro d
    induction d with
    | zero =>
      intro j adj H locs ls hj hA G hl
      obtain rfl : j = 11 := by omega
      have hr5 : ha_gR (i_lns 81 181 (i_lns 20 180 (i_X0a S) 61) 11) 5 1 = some 181 := by rw [i_lns_R (by omega)]; exact hr1
      refine lv_iload_n hx hb dX0_init_106 rfl (lv_at hl 0 rfl) ?_
      refine lv_aload_n hx hb dX0_init_107 rfl (lv_at hl 1 rfl) ?_
      refine gw_getr (n := 5) (r := 181) (k := 1) hx hb hown hK G (⟨RX0, TX0, 11, wsX0_init, rfl, by decide, by decide, rfl, rfl, hts, hi, hts (.fieldLink RX0 17 "HillArms$Breaker" "once" "[LHillArms$Line;") (by decide +kernel)⟩ : ha_Fk s ([.ref (ad 5)] : List Value).toArray RX0 17 0 1 1) (List.mem_append_left _ h0) h0k (hA 5 h0) hr5 dX0_init_108 ?_
      refine gw_alen (n := 181) (ci := 102) hx hb hK G (List.mem_append_right _ (List.mem_append_left _ (by simp))) (by decide +kernel) (by decide) (by decide) rfl dX0_init_111 ?_
      rw [show xo_ln 181 = 11 by decide +kernel]
      exact lv_icmp_ge (tgt := 137) hx hb dX0_init_112 (by decide) (fun _ => by
        refine (fun (G : gw_G D cs adj xo_kd xo_ln (N ++ ([180, 181, 17, (100 + 16 * 17), (101 + 16 * 17), (102 + 16 * 17), (103 + 16 * 17), 183, 184, 188, 189] ++ (lnL 20 61 ++ lnL 81 11))) (i_X0 S) z0 s.heap H locs) => gw_ret hx hb hr hlocks hA G rfl dX0_init_137) (by rw [← List.append_assoc [180, 181, 17, (100 + 16 * 17), (101 + 16 * 17), (102 + 16 * 17), (103 + 16 * 17), 183, 184, 188, 189]]; exact G)) (fun c => absurd (nI_le (Nat.le_refl _) (by decide)) c)
    | succ d ih =>
      intro j adj H locs ls hj hA G hl
      have hr5 : ha_gR (i_lns 81 181 (i_lns 20 180 (i_X0a S) 61) j) 5 1 = some 181 := by rw [i_lns_R (by omega)]; exact hr1
      have hln : isLn (81 + j) := by unfold isLn; omega
      have m5 : 5 ∈ (N ++ (([180, 181, 17, (100 + 16 * 17), (101 + 16 * 17), (102 + 16 * 17), (103 + 16 * 17), 183, 184, 188, 189] ++ lnL 20 61) ++ lnL 81 j)) := List.mem_append_left _ h0
      have mA : 181 ∈ (N ++ (([180, 181, 17, (100 + 16 * 17), (101 + 16 * 17), (102 + 16 * 17), (103 + 16 * 17), 183, 184, 188, 189] ++ lnL 20 61) ++ lnL 81 j)) := List.mem_append_right _ (List.mem_append_left _ (by simp))
      refine lv_iload_n hx hb dX0_init_106 rfl (lv_at hl 0 rfl) ?_
      refine lv_aload_n hx hb dX0_init_107 rfl (lv_at hl 1 rfl) ?_
      refine gw_getr (n := 5) (r := 181) (k := 1) hx hb hown hK G (⟨RX0, TX0, 11, wsX0_init, rfl, by decide, by decide, rfl, rfl, hts, hi, hts (.fieldLink RX0 17 "HillArms$Breaker" "once" "[LHillArms$Line;") (by decide +kernel)⟩ : ha_Fk s ([.ref (ad 5)] : List Value).toArray RX0 17 0 1 1) m5 h0k (hA 5 h0) hr5 dX0_init_108 ?_
      refine gw_alen (n := 181) (ci := 102) hx hb hK G mA (by decide +kernel) (by decide) (by decide) rfl dX0_init_111 ?_
      rw [show xo_ln 181 = 11 by decide +kernel]
      refine lv_icmp_ge (tgt := 137) hx hb dX0_init_112 (by decide) (fun c => absurd c (nI_ge (show j < 11 by omega) (by decide) : ¬ nI 11 ≤ nI j)) (fun _ => ?_)
      refine lv_aload_n hx hb dX0_init_115 rfl (lv_at hl 1 rfl) ?_
      refine gw_getr (n := 5) (r := 181) (k := 1) hx hb hown hK G (⟨RX0, TX0, 11, wsX0_init, rfl, by decide, by decide, rfl, rfl, hts, hi, hts (.fieldLink RX0 17 "HillArms$Breaker" "once" "[LHillArms$Line;") (by decide +kernel)⟩ : ha_Fk s ([.ref (ad 5)] : List Value).toArray RX0 17 0 1 1) m5 h0k (hA 5 h0) hr5 dX0_init_116 ?_
      refine lv_iload_n hx hb dX0_init_119 rfl (lv_at hl 0 rfl) ?_
      have nL : ∀ x, (x = (81 + j) ∨ x = 100 + 16 * (81 + j) ∨ x = 101 + 16 * (81 + j) ∨ x = 102 + 16 * (81 + j) ∨ x = 103 + 16 * (81 + j)) → x ∉ (N ++ (([180, 181, 17, (100 + 16 * 17), (101 + 16 * 17), (102 + 16 * 17), (103 + 16 * 17), 183, 184, 188, 189] ++ lnL 20 61) ++ lnL 81 j)) := fun x hx => gw_nin (hL x (X0_inKB hx (by omega))) (X0_niKB hx (by omega))
      refine gw_new (ci := 5) (Ts := wsX0_init) hx hb hts (fun w h => List.mem_cons_of_mem _ (List.mem_append_right _ h)) tyX5 tyX5_ok hown (hts (.classLink RX0 9 RX5) (by decide +kernel)) (hts (.instantiable RX5 8) (by decide +kernel)) (hts (.initialized RX5) (by decide +kernel)) hK G (n := (81 + j)) (nL _ (Or.inl rfl)) (ln_all hln).1 (by decide) rfl rfl df_X5 (by show 316 + 5 * j + 1 ≤ 371; omega) (by show 3688 + 56 * j + 8 ≤ 4304; omega) dX0_init_120 (fun ad1 H a1 G => ?_)
      refine lv_dup hx hb dX0_init_123 rfl ?_
      refine lv_bipush (v := 8) hx hb dX0_init_124 (by decide) ?_
      refine lv_iconst (v := 0) hx hb dX0_init_126 (by decide) ?_
      refine gw_call (As := [.int 8, .int 0]) (rest := [.ref (ad1 (81 + j)), .int (nI j), .ref (adj 181)]) (b := ad1 (81 + j)) (L := [100 + 16 * (81 + j), 101 + 16 * (81 + j), 102 + 16 * (81 + j), 103 + 16 * (81 + j)]) ⟨hx, hb, hml, hown, hts⟩ hK hNl G (ct_X5 hln (by omega) (List.mem_append_right _ (by simp)) (fun x hx => gw_nin (nL x (by simp only [List.mem_cons, List.not_mem_nil, or_false] at hx; exact Or.inr hx)) (by simp only [List.mem_cons, List.not_mem_nil, or_false] at hx ⊢; omega))) (cwI 2 hts gX0_init_X5_init (rm := ({ frames := 1, cells := 4, slots := 48, locals := 12 } : Room)) (mc := 4) (ms := 48) rfl rfl rfl (hts (.initialized RX5) (by decide +kernel)) (hts (.methodLink RX0 20 yX5_init) (by decide +kernel)) (hts (.instanceMethod yX5_init) (by decide +kernel)) rfl (by decide +kernel) ⟨Nat.le_of_ble_eq_true rfl, Nat.le_of_ble_eq_true rfl⟩) rfl hl.1 rfl (Nat.le_of_ble_eq_true rfl) dX0_init_127 ⟨by show 316 + 5 * j + 1 + 4 ≤ 371; omega, by show 3688 + 56 * j + 8 + 48 ≤ 4304; omega⟩ (fun ad2 H locs a2 G => ?_)
      have mA2 : 181 ∈ ((N ++ (([180, 181, 17, (100 + 16 * 17), (101 + 16 * 17), (102 + 16 * 17), (103 + 16 * 17), 183, 184, 188, 189] ++ lnL 20 61) ++ lnL 81 j)) ++ [(81 + j)]) ++ [100 + 16 * (81 + j), 101 + 16 * (81 + j), 102 + 16 * (81 + j), 103 + 16 * (81 + j)] := List.mem_append_left _ (List.mem_append_left _ mA)
      have mN2 : (81 + j) ∈ ((N ++ (([180, 181, 17, (100 + 16 * 17), (101 + 16 * 17), (102 + 16 * 17), (103 + 16 * 17), 183, 184, 188, 189] ++ lnL 20 61) ++ lnL 81 j)) ++ [(81 + j)]) ++ [100 + 16 * (81 + j), 101 + 16 * (81 + j), 102 + 16 * (81 + j), 103 + 16 * (81 + j)] := List.mem_append_left _ (List.mem_append_right _ (by simp))
      refine gw_aast (n := 181) (r := (81 + j)) (ci := 5) (kq := 102) (t0 := 2) (C := "HillArms$Line") hx hb hK G mA2 (by decide +kernel) (by decide) rfl mN2 (ln_all hln).1 (by decide) rfl ((a2 _ (List.mem_append_left _ mA)).trans (a1 _ mA)) (a2 _ (List.mem_append_right _ (by simp))) (by rw [show xo_ln 181 = 11 by decide +kernel]; exact n_in (by omega) (by omega)) dX0_init_130 (fun H locs G => ?_)
      rw [nI_clamp (by omega)] at G
      have eN : ((N ++ (([180, 181, 17, (100 + 16 * 17), (101 + 16 * 17), (102 + 16 * 17), (103 + 16 * 17), 183, 184, 188, 189] ++ lnL 20 61) ++ lnL 81 j)) ++ [(81 + j)]) ++ [100 + 16 * (81 + j), 101 + 16 * (81 + j), 102 + 16 * (81 + j), 103 + 16 * (81 + j)] = N ++ (([180, 181, 17, (100 + 16 * 17), (101 + 16 * 17), (102 + 16 * 17), (103 + 16 * 17), 183, 184, 188, 189] ++ lnL 20 61) ++ lnL 81 (j + 1)) := by rw [lnL_s 81 j]; simp only [List.append_assoc, List.cons_append, List.nil_append]
      rw [eN] at G
      refine lv_iinc (v := nI (j + 1)) (k := 0) (lv' := [(1, .int (nI (j + 1))), (0, .ref (ad 5))]) hx hb dX0_init_131 hl rfl (nI_1 j) (by decide) rfl (fun ls hl => ?_)
      refine lv_goto (tgt := 106) hx hb dX0_init_134 (by decide) ?_
      rw [show 316 + 5 * j + 1 + 4 = 316 + 5 * (j + 1) by omega, show 3688 + 56 * j + 8 + 48 = 3688 + 56 * (j + 1) by omega]
      exact ih (j + 1) ad2 H locs ls (by omega) (fun y hy => ((a2 y (List.mem_append_left _ (List.mem_append_left _ hy))).trans (a1 y (List.mem_append_left _ hy))).trans (hA y hy)) G hl
  have KA : ∀ (d j : Nat) (adj : Nat → Nat) (H : Heap) (locs : List Loc) (ls : Array Slot), j + d = 61 → (∀ y, y ∈ N → adj y = ad y) → gw_G D cs adj xo_kd xo_ln (N ++ ([180, 181, 17, (100 + 16 * 17), (101 + 16 * 17), (102 + 16 * 17), (103 + 16 * 17), 183, 184, 188, 189] ++ lnL 20 j)) (i_lns 20 180 (i_X0a S) j) z0 s.heap H locs → lv_has ls 2 [(1, .int (nI j)), (0, .ref (ad 5))] → W p l e (headSpec wsX0_init ({ frames := 2, cells := 371, slots := 4304, locals := 34 } : Room)).room s m ([.ref (ad 5)] : List Value).toArray below meth c H locs (11 + 5 * j) (272 + 56 * j) (MQ below (va_Qv (fun (ad1 : Nat → Nat) => (∀ y, y ∈ N → ad1 y = ad y) ∧ gw_C (N ++ ([180, 181, 17, (100 + 16 * 17), (101 + 16 * 17), (102 + 16 * 17), (103 + 16 * 17), 183, 184, 188, 189] ++ (lnL 20 61 ++ lnL 81 11))) (i_X0 S) ∧ gw_B (N ++ ([180, 181, 17, (100 + 16 * 17), (101 + 16 * 17), (102 + 16 * 17), (103 + 16 * 17), 183, 184, 188, 189] ++ (lnL 20 61 ++ lnL 81 11))) (i_X0 S)) (fun ad1 t => va_P D vwCl (ha_wl cs ad1 xo_kd xo_ln (N ++ ([180, 181, 17, (100 + 16 * 17), (101 + 16 * 17), (102 + 16 * 17), (103 + 16 * 17), 183, 184, 188, 189] ++ (lnL 20 61 ++ lnL 81 11))) (i_X0 S)) t.heap ∧ va_D (fun q => z0 ≤ q) (ha_wl cs ad1 xo_kd xo_ln (N ++ ([180, 181, 17, (100 + 16 * 17), (101 + 16 * 17), (102 + 16 * 17), (103 + 16 * 17), 183, 184, 188, 189] ++ (lnL 20 61 ++ lnL 81 11))) (i_X0 S))) (fun q => z0 ≤ q)) ([.ref (ad 5)] : List Value).toArray s 371 4304 (fun q => z0 ≤ q)) (F0 m 73 ls []) := by
    intro d
    induction d with
    | zero =>
      intro j adj H locs ls hj hA G hl
      obtain rfl : j = 61 := by omega
      have hr5 : ha_gR (i_lns 20 180 (i_X0a S) 61) 5 0 = some 180 := by rw [i_lns_R (by omega)]; exact hr0
      refine lv_iload_n hx hb dX0_init_73 rfl (lv_at hl 0 rfl) ?_
      refine lv_aload_n hx hb dX0_init_74 rfl (lv_at hl 1 rfl) ?_
      refine gw_getr (n := 5) (r := 180) (k := 0) hx hb hown hK G (⟨RX0, TX0, 11, wsX0_init, rfl, by decide, by decide, rfl, rfl, hts, hi, hts (.fieldLink RX0 11 "HillArms$Breaker" "calm" "[LHillArms$Line;") (by decide +kernel)⟩ : ha_Fk s ([.ref (ad 5)] : List Value).toArray RX0 11 0 0 1) (List.mem_append_left _ h0) h0k (hA 5 h0) hr5 dX0_init_75 ?_
      refine gw_alen (n := 180) (ci := 102) hx hb hK G (List.mem_append_right _ (List.mem_append_left _ (by simp))) (by decide +kernel) (by decide) (by decide) rfl dX0_init_78 ?_
      rw [show xo_ln 180 = 61 by decide +kernel]
      exact lv_icmp_ge (tgt := 104) hx hb dX0_init_79 (by decide) (fun _ => by
        refine lv_iconst (v := 0) hx hb dX0_init_104 (by decide) ?_
        refine lv_istore_n (lv' := [(1, .int (nI 0)), (0, .ref (ad 5))]) hx hb dX0_init_105 rfl hl (by decide) rfl (fun ls hl => ?_)
        exact KB 11 0 adj H locs ls rfl hA (by rw [show lnL 81 0 = [] from rfl, List.append_nil]; exact G) hl) (fun c => absurd (nI_le (Nat.le_refl _) (by decide)) c)
    | succ d ih =>
      intro j adj H locs ls hj hA G hl
      have hr5 : ha_gR (i_lns 20 180 (i_X0a S) j) 5 0 = some 180 := by rw [i_lns_R (by omega)]; exact hr0
      have hln : isLn (20 + j) := by unfold isLn; omega
      have m5 : 5 ∈ (N ++ ([180, 181, 17, (100 + 16 * 17), (101 + 16 * 17), (102 + 16 * 17), (103 + 16 * 17), 183, 184, 188, 189] ++ lnL 20 j)) := List.mem_append_left _ h0
      have mA : 180 ∈ (N ++ ([180, 181, 17, (100 + 16 * 17), (101 + 16 * 17), (102 + 16 * 17), (103 + 16 * 17), 183, 184, 188, 189] ++ lnL 20 j)) := List.mem_append_right _ (List.mem_append_left _ (by simp))
      refine lv_iload_n hx hb dX0_init_73 rfl (lv_at hl 0 rfl) ?_
      refine lv_aload_n hx hb dX0_init_74 rfl (lv_at hl 1 rfl) ?_
      refine gw_getr (n := 5) (r := 180) (k := 0) hx hb hown hK G (⟨RX0, TX0, 11, wsX0_init, rfl, by decide, by decide, rfl, rfl, hts, hi, hts (.fieldLink RX0 11 "HillArms$Breaker" "calm" "[LHillArms$Line;") (by decide +kernel)⟩ : ha_Fk s ([.ref (ad 5)] : List Value).toArray RX0 11 0 0 1) m5 h0k (hA 5 h0) hr5 dX0_init_75 ?_
      refine gw_alen (n := 180) (ci := 102) hx hb hK G mA (by decide +kernel) (by decide) (by decide) rfl dX0_init_78 ?_
      rw [show xo_ln 180 = 61 by decide +kernel]
      refine lv_icmp_ge (tgt := 104) hx hb dX0_init_79 (by decide) (fun c => absurd c (nI_ge (show j < 61 by omega) (by decide) : ¬ nI 61 ≤ nI j)) (fun _ => ?_)
      refine lv_aload_n hx hb dX0_init_82 rfl (lv_at hl 1 rfl) ?_
      refine gw_getr (n := 5) (r := 180) (k := 0) hx hb hown hK G (⟨RX0, TX0, 11, wsX0_init, rfl, by decide, by decide, rfl, rfl, hts, hi, hts (.fieldLink RX0 11 "HillArms$Breaker" "calm" "[LHillArms$Line;") (by decide +kernel)⟩ : ha_Fk s ([.ref (ad 5)] : List Value).toArray RX0 11 0 0 1) m5 h0k (hA 5 h0) hr5 dX0_init_83 ?_
      refine lv_iload_n hx hb dX0_init_86 rfl (lv_at hl 0 rfl) ?_
      have nL : ∀ x, (x = (20 + j) ∨ x = 100 + 16 * (20 + j) ∨ x = 101 + 16 * (20 + j) ∨ x = 102 + 16 * (20 + j) ∨ x = 103 + 16 * (20 + j)) → x ∉ (N ++ ([180, 181, 17, (100 + 16 * 17), (101 + 16 * 17), (102 + 16 * 17), (103 + 16 * 17), 183, 184, 188, 189] ++ lnL 20 j)) := fun x hx => gw_nin (hL x (X0_inKA hx (by omega))) (X0_niKA hx (by omega))
      refine gw_new (ci := 5) (Ts := wsX0_init) hx hb hts (fun w h => List.mem_cons_of_mem _ (List.mem_append_right _ h)) tyX5 tyX5_ok hown (hts (.classLink RX0 9 RX5) (by decide +kernel)) (hts (.instantiable RX5 8) (by decide +kernel)) (hts (.initialized RX5) (by decide +kernel)) hK G (n := (20 + j)) (nL _ (Or.inl rfl)) (ln_all hln).1 (by decide) rfl rfl df_X5 (by show 11 + 5 * j + 1 ≤ 371; omega) (by show 272 + 56 * j + 8 ≤ 4304; omega) dX0_init_87 (fun ad1 H a1 G => ?_)
      refine lv_dup hx hb dX0_init_90 rfl ?_
      refine lv_bipush (v := 8) hx hb dX0_init_91 (by decide) ?_
      refine lv_iconst (v := 0) hx hb dX0_init_93 (by decide) ?_
      refine gw_call (As := [.int 8, .int 0]) (rest := [.ref (ad1 (20 + j)), .int (nI j), .ref (adj 180)]) (b := ad1 (20 + j)) (L := [100 + 16 * (20 + j), 101 + 16 * (20 + j), 102 + 16 * (20 + j), 103 + 16 * (20 + j)]) ⟨hx, hb, hml, hown, hts⟩ hK hNl G (ct_X5 hln (by omega) (List.mem_append_right _ (by simp)) (fun x hx => gw_nin (nL x (by simp only [List.mem_cons, List.not_mem_nil, or_false] at hx; exact Or.inr hx)) (by simp only [List.mem_cons, List.not_mem_nil, or_false] at hx ⊢; omega))) (cwI 2 hts gX0_init_X5_init (rm := ({ frames := 1, cells := 4, slots := 48, locals := 12 } : Room)) (mc := 4) (ms := 48) rfl rfl rfl (hts (.initialized RX5) (by decide +kernel)) (hts (.methodLink RX0 20 yX5_init) (by decide +kernel)) (hts (.instanceMethod yX5_init) (by decide +kernel)) rfl (by decide +kernel) ⟨Nat.le_of_ble_eq_true rfl, Nat.le_of_ble_eq_true rfl⟩) rfl hl.1 rfl (Nat.le_of_ble_eq_true rfl) dX0_init_94 ⟨by show 11 + 5 * j + 1 + 4 ≤ 371; omega, by show 272 + 56 * j + 8 + 48 ≤ 4304; omega⟩ (fun ad2 H locs a2 G => ?_)
      have mA2 : 180 ∈ ((N ++ ([180, 181, 17, (100 + 16 * 17), (101 + 16 * 17), (102 + 16 * 17), (103 + 16 * 17), 183, 184, 188, 189] ++ lnL 20 j)) ++ [(20 + j)]) ++ [100 + 16 * (20 + j), 101 + 16 * (20 + j), 102 + 16 * (20 + j), 103 + 16 * (20 + j)] := List.mem_append_left _ (List.mem_append_left _ mA)
      have mN2 : (20 + j) ∈ ((N ++ ([180, 181, 17, (100 + 16 * 17), (101 + 16 * 17), (102 + 16 * 17), (103 + 16 * 17), 183, 184, 188, 189] ++ lnL 20 j)) ++ [(20 + j)]) ++ [100 + 16 * (20 + j), 101 + 16 * (20 + j), 102 + 16 * (20 + j), 103 + 16 * (20 + j)] := List.mem_append_left _ (List.mem_append_right _ (by simp))
      refine gw_aast (n := 180) (r := (20 + j)) (ci := 5) (kq := 102) (t0 := 2) (C := "HillArms$Line") hx hb hK G mA2 (by decide +kernel) (by decide) rfl mN2 (ln_all hln).1 (by decide) rfl ((a2 _ (List.mem_append_left _ mA)).trans (a1 _ mA)) (a2 _ (List.mem_append_right _ (by simp))) (by rw [show xo_ln 180 = 61 by decide +kernel]; exact n_in (by omega) (by omega)) dX0_init_97 (fun H locs G => ?_)
      rw [nI_clamp (by omega)] at G
      have eN : ((N ++ ([180, 181, 17, (100 + 16 * 17), (101 + 16 * 17), (102 + 16 * 17), (103 + 16 * 17), 183, 184, 188, 189] ++ lnL 20 j)) ++ [(20 + j)]) ++ [100 + 16 * (20 + j), 101 + 16 * (20 + j), 102 + 16 * (20 + j), 103 + 16 * (20 + j)] = N ++ ([180, 181, 17, (100 + 16 * 17), (101 + 16 * 17), (102 + 16 * 17), (103 + 16 * 17), 183, 184, 188, 189] ++ lnL 20 (j + 1)) := by rw [lnL_s 20 j]; simp only [List.append_assoc, List.cons_append, List.nil_append]
      rw [eN] at G
      refine lv_iinc (v := nI (j + 1)) (k := 0) (lv' := [(1, .int (nI (j + 1))), (0, .ref (ad 5))]) hx hb dX0_init_98 hl rfl (nI_1 j) (by decide) rfl (fun ls hl => ?_)
      refine lv_goto (tgt := 73) hx hb dX0_init_101 (by decide) ?_
      rw [show 11 + 5 * j + 1 + 4 = 11 + 5 * (j + 1) by omega, show 272 + 56 * j + 8 + 48 = 272 + 56 * (j + 1) by omega]
      exact ih (j + 1) ad2 H locs ls (by omega) (fun y hy => ((a2 y (List.mem_append_left _ (List.mem_append_left _ hy))).trans (a1 y (List.mem_append_left _ hy))).trans (hA y hy)) G hl
  exact KA 61 0 ad8 H locs ls rfl A8 G hl

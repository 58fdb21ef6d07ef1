set_option maxHeartbeats 4000000 in
set_option maxRecDepth 100000 in
theorem c_J3_checkIndex_8e157 {l : Launch} {D : va_G} {cs : Nat → ClassId} {ad kd ln : Nat → Nat} {N : List Nat} {Z : State → Prop} {p0 p1 : Int32} {v : Value} (hv0 : v = .null ∨ ∃ t, v = .ref t) {S : ha_St} {out : Int32} (hf : f_J3_checkIndex_8e157 p0 p1 = some out) : ha_Ci l D cs ad kd ln N Z yJ3_checkIndex_8e157 wsJ3_checkIndex_8e157 ({ frames := 0, cells := 0, slots := 0, locals := 0 } : Room) [.int p0, .int p1, v] S out S := by
  have hf : (if p0 < 0 then none else if p0 < p1 then some p0 else none) = some out := hf
  by_cases h1 : p0 < 0
  · rw [if_pos h1] at hf; cases hf
  · rw [if_neg h1] at hf
    by_cases h2 : p0 < p1
    · rw [if_pos h2] at hf
      have he := Option.some.inj hf
      rcases hv0 with rfl | ⟨t, rfl⟩
      · skip
        refine va_MetF (cc := cJ3_checkIndex_8e157) (maxL := 3) (ret := (some .int)) (by decide +kernel) rfl ?_
        intro p e s m args below meth c s₁ B hml hv
        obtain ⟨rfl, hP, hD, hK, hz⟩ := hv
        have hx := B.exec
        have hb := B.bytes
        have hr := B.returns
        have hts := atoms_spec (ws := wsJ3_checkIndex_8e157) B.pre
        have hown : s.vm.findClass RJ3 = some m.cls := findClass_of_methodNamed B.named
        have hlocks := B.notSynchronized
        have hS : va_S (ha_A ad N) s.heap s.heap [] := va_S.rf
        have hl := lv_entry ([.int p0, .int p1, .null]) (n := 3) (Nat.le_of_ble_eq_true rfl)
        rw [lg_entry_eq]
        generalize (lg_sl ([.int p0, .int p1, .null]) ++ List.replicate (3 - (lg_sl ([.int p0, .int p1, .null])).length) Slot.unset).toArray = ls at hl ⊢
        have hl : lv_has ls 3 [(0, .int p0), (1, .int p1), (2, .null)] := hl
        refine lv_iload_n hx hb dJ3_checkIndex_8e157_0 rfl (lv_at hl 0 rfl) ?_
        refine lv_if_lt (tgt := 9) hx hb dJ3_checkIndex_8e157_1 (by decide) (fun q => absurd q h1) (fun _ => ?_)
        refine lv_iload_n hx hb dJ3_checkIndex_8e157_4 rfl (lv_at hl 0 rfl) ?_
        refine lv_iload_n hx hb dJ3_checkIndex_8e157_5 rfl (lv_at hl 1 rfl) ?_
        refine lv_icmp_lt (tgt := 16) hx hb dJ3_checkIndex_8e157_6 (by decide) (fun _ => ?_) (fun q => absurd h2 q)
        refine lv_iload_n hx hb dJ3_checkIndex_8e157_16 rfl (lv_at hl 0 rfl) ?_
        exact ha_reti hx hb hr hlocks hP hD hS dJ3_checkIndex_8e157_17 he rfl
      · skip
        refine va_MetF (cc := cJ3_checkIndex_8e157) (maxL := 3) (ret := (some .int)) (by decide +kernel) rfl ?_
        intro p e s m args below meth c s₁ B hml hv
        obtain ⟨rfl, hP, hD, hK, hz⟩ := hv
        have hx := B.exec
        have hb := B.bytes
        have hr := B.returns
        have hts := atoms_spec (ws := wsJ3_checkIndex_8e157) B.pre
        have hown : s.vm.findClass RJ3 = some m.cls := findClass_of_methodNamed B.named
        have hlocks := B.notSynchronized
        have hS : va_S (ha_A ad N) s.heap s.heap [] := va_S.rf
        have hl := lv_entry ([.int p0, .int p1, .ref t]) (n := 3) (Nat.le_of_ble_eq_true rfl)
        rw [lg_entry_eq]
        generalize (lg_sl ([.int p0, .int p1, .ref t]) ++ List.replicate (3 - (lg_sl ([.int p0, .int p1, .ref t])).length) Slot.unset).toArray = ls at hl ⊢
        have hl : lv_has ls 3 [(0, .int p0), (1, .int p1), (2, .ref t)] := hl
        refine lv_iload_n hx hb dJ3_checkIndex_8e157_0 rfl (lv_at hl 0 rfl) ?_
        refine lv_if_lt (tgt := 9) hx hb dJ3_checkIndex_8e157_1 (by decide) (fun q => absurd q h1) (fun _ => ?_)
        refine lv_iload_n hx hb dJ3_checkIndex_8e157_4 rfl (lv_at hl 0 rfl) ?_
        refine lv_iload_n hx hb dJ3_checkIndex_8e157_5 rfl (lv_at hl 1 rfl) ?_
        refine lv_icmp_lt (tgt := 16) hx hb dJ3_checkIndex_8e157_6 (by decide) (fun _ => ?_) (fun q => absurd h2 q)
        refine lv_iload_n hx hb dJ3_checkIndex_8e157_16 rfl (lv_at hl 0 rfl) ?_
        exact ha_reti hx hb hr hlocks hP hD hS dJ3_checkIndex_8e157_17 he rfl
    · rw [if_neg h2] at hf; cases hf
set_option maxHeartbeats 4000000 in
set_option maxRecDepth 100000 in
theorem c_J0_checkIndex_df160 {l : Launch} {D : va_G} {cs : Nat → ClassId} {ad adK adV : Nat → Nat} {N : List Nat} {Z : State → Prop} (hZ : ha_Zok (ha_A ad N) Z) (hX : ∀ U, Z U → xo_Z adK adV (ha_A ad N) U) {p0 p1 : Int32} {S : ha_St} {out : Unit} (hf : f_J0_checkIndex_df160 p0 p1 = some out) : ha_Cv l D cs ad xo_kd xo_ln N Z yJ0_checkIndex_df160 wsJ0_checkIndex_df160 ({ frames := 1, cells := 0, slots := 0, locals := 22 } : Room) [.int p0, .int p1] S S := by
  obtain ⟨z, wz, -⟩ := ha_bds (ha_rt hf)
  refine va_MetF (cc := cJ0_checkIndex_df160) (maxL := 2) (ret := none) (by decide +kernel) rfl ?_
  intro p e s m args below meth c s₁ B hml hv
  obtain ⟨rfl, hP, hD, hK, hz⟩ := hv
  have hx := B.exec
  have hb := B.bytes
  have hr := B.returns
  have hts := atoms_spec (ws := wsJ0_checkIndex_df160) B.pre
  have hown : s.vm.findClass RJ0 = some m.cls := findClass_of_methodNamed B.named
  have hlocks := B.notSynchronized
  have hS : va_S (ha_A ad N) s.heap s.heap [] := va_S.rf
  have hl := lv_entry ([.int p0, .int p1]) (n := 2) (Nat.le_of_ble_eq_true rfl)
  rw [lg_entry_eq]
  generalize (lg_sl ([.int p0, .int p1]) ++ List.replicate (2 - (lg_sl ([.int p0, .int p1])).length) Slot.unset).toArray = ls at hl ⊢
  have hl : lv_has ls 2 [(0, .int p0), (1, .int p1)] := hl
  obtain ⟨-, hVS, hR0, hR1, hCS, hSI⟩ := id (hX s hz)
  have fl := hts (.fieldLink RJ0 1053 "jdk/internal/util/Preconditions" "SIOOBE_FORMATTER" "Ljava/util/function/BiFunction;") (by decide +kernel)
  have cw0 := va_cwS (R := (headSpec wsJ0_checkIndex_df160 ({ frames := 1, cells := 0, slots := 0, locals := 22 } : Room)).room) 3 hts gJ0_checkIndex_df160_J3_checkIndex_8e157 (rm := ({ frames := 0, cells := 0, slots := 0, locals := 0 } : Room)) (mc := 0) (ms := 0) rfl rfl rfl (by decide +kernel) ⟨Nat.le_of_ble_eq_true rfl, Nat.le_of_ble_eq_true rfl⟩
  refine lv_iload_n hx hb dJ0_checkIndex_df160_0 rfl (lv_at hl 0 rfl) ?_
  refine lv_iload_n hx hb dJ0_checkIndex_df160_1 rfl (lv_at hl 1 rfl) ?_
  rcases hSI with hq | ⟨t, hq⟩
  · refine va_gets hx hb hq hS hown fl (fun _ h => h) dJ0_checkIndex_df160_2 ?_
    refine ha_callSi (As := [.int p0, .int p1, .null]) (rest := []) hZ ⟨hx, hb, hml, hown, hts⟩ hK hz hP hD hS (c_J3_checkIndex_8e157 (Or.inl rfl) wz) cw0 rfl hl.1 rfl (Nat.le_of_ble_eq_true rfl) dJ0_checkIndex_df160_5 ⟨Nat.le_of_ble_eq_true rfl, Nat.le_of_ble_eq_true rfl⟩ (fun H locs hP hD hS => ?_)
    refine lv_pop hx hb dJ0_checkIndex_df160_8 rfl ?_
    exact ha_retv hx hb hr hlocks hP hD hS dJ0_checkIndex_df160_9 rfl
  · refine va_gets hx hb hq hS hown fl (fun _ h => h) dJ0_checkIndex_df160_2 ?_
    refine ha_callSi (As := [.int p0, .int p1, .ref t]) (rest := []) hZ ⟨hx, hb, hml, hown, hts⟩ hK hz hP hD hS (c_J3_checkIndex_8e157 (Or.inr ⟨t, rfl⟩) wz) cw0 rfl hl.1 rfl (Nat.le_of_ble_eq_true rfl) dJ0_checkIndex_df160_5 ⟨Nat.le_of_ble_eq_true rfl, Nat.le_of_ble_eq_true rfl⟩ (fun H locs hP hD hS => ?_)
    refine lv_pop hx hb dJ0_checkIndex_df160_8 rfl ?_
    exact ha_retv hx hb hr hlocks hP hD hS dJ0_checkIndex_df160_9 rfl

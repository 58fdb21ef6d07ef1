set_option maxHeartbeats 4000000 in
set_option maxRecDepth 100000 in
theorem c_X11_isLetter {l : Launch} {D : va_G} {cs : Nat → ClassId} {ad kd ln : Nat → Nat} {N : List Nat} {Z : State → Prop}  {p0 : Int32} {S : ha_St} {out : Int32}  (hf : f_X11_isLetter p0 = some out) : ha_Ci l D cs ad kd ln N Z yX11_isLetter wsX11_isLetter ({ frames := 0, cells := 0, slots := 0, locals := 0 } : Room) [.int p0] S out S := by
  refine Met.ofW (cc := cX11_isLetter) (maxL := 1) (ret := (some .boolean)) (by decide +kernel) rfl ?_
  intro p e s m args below meth c s₁ B hml hv
  obtain ⟨rfl, hP, hD, hK, hz⟩ := hv
  have hx := B.exec
  have hb := B.bytes
  have hr := B.returns
  have hts := atoms_spec (ws := wsX11_isLetter) B.pre
  have hown : s.vm.findClass RX11 = some m.cls := findClass_of_methodNamed B.named
  have hlocks := B.notSynchronized
  have hS : va_S (ha_A ad N) s.heap s.heap [] := va_S.rf
  have hl := lv_entry ([.int p0]) (n := 1) (Nat.le_of_ble_eq_true rfl)
  rw [lg_entry_eq]
  generalize (lg_sl ([.int p0]) ++ List.replicate (1 - (lg_sl ([.int p0])).length) Slot.unset).toArray = ls at hl ⊢
  have hl : lv_has ls 1 [(0, .int p0)] := hl
  refine (fun (K0 : ∀ (H : Heap) (locs : List Loc), va_P D vwCl (ha_wl cs ad kd ln N S) H → va_S (ha_A ad N) s.heap H locs → W p l e (headSpec wsX11_isLetter ({ frames := 0, cells := 0, slots := 0, locals := 0 } : Room)).room s m ([.int p0] : List Value).toArray below meth c H locs 0 0 (MQ below (va_Qi (fun (r : Int32) (_ : Unit) => r = out) (fun _ => ha_H D cs ad kd ln N S) (ha_A ad N)) ([.int p0] : List Value).toArray s 0 0 (ha_A ad N)) (F0 m 0 ls [])) => K0 _ _ hP hS) ?_
  intro H locs hP hS
  have hf := ha_rt hf
  have J17 : ∀ (k0 : Int32) (H : Heap) (locs : List Loc) (ls : Array Slot), (f_X11_isLetter_J17 p0 k0).bind some = some out → va_P D vwCl (ha_wl cs ad kd ln N S) H → va_D (ha_A ad N) (ha_wl cs ad kd ln N S) → va_S (ha_A ad N) s.heap H locs → lv_has ls 1 [(0, .int p0)] → W p l e (headSpec wsX11_isLetter ({ frames := 0, cells := 0, slots := 0, locals := 0 } : Room)).room s m ([.int p0] : List Value).toArray below meth c H locs 0 0 (MQ below (va_Qi (fun (r : Int32) (_ : Unit) => r = out) (fun _ => ha_H D cs ad kd ln N S) (ha_A ad N)) ([.int p0] : List Value).toArray s 0 0 (ha_A ad N)) (F0 m 17 ls [.int k0]) := by
    intro k0 H locs ls hf  hP hD hS hl
    unfold f_X11_isLetter_J17 at hf
    obtain ⟨g1, hf⟩ := ha_gds hf
    have he := Option.some.inj hf
    exact ha_retz hx hb hr hlocks hP hD hS dX11_isLetter_17 g1 he rfl
  have J16 : ∀  (H : Heap) (locs : List Loc) (ls : Array Slot), (f_X11_isLetter_J16 p0 ).bind some = some out → va_P D vwCl (ha_wl cs ad kd ln N S) H → va_D (ha_A ad N) (ha_wl cs ad kd ln N S) → va_S (ha_A ad N) s.heap H locs → lv_has ls 1 [(0, .int p0)] → W p l e (headSpec wsX11_isLetter ({ frames := 0, cells := 0, slots := 0, locals := 0 } : Room)).room s m ([.int p0] : List Value).toArray below meth c H locs 0 0 (MQ below (va_Qi (fun (r : Int32) (_ : Unit) => r = out) (fun _ => ha_H D cs ad kd ln N S) (ha_A ad N)) ([.int p0] : List Value).toArray s 0 0 (ha_A ad N)) (F0 m 16 ls []) := by
    intro  H locs ls hf  hP hD hS hl
    unfold f_X11_isLetter_J16 at hf
    refine lv_iconst (v := 0) hx hb dX11_isLetter_16 (by decide) ?_
    exact J17 0 H locs ls hf  hP hD hS (lv_sub hl [0] rfl)
  unfold f_X11_isLetter at hf
  refine lv_iload_n hx hb dX11_isLetter_0 rfl (lv_at hl 0 rfl) ?_
  refine lv_bipush (v := 97) hx hb dX11_isLetter_1 (by decide) ?_
  refine lv_icmp_lt (tgt := 16) hx hb dX11_isLetter_3 (by decide) (fun c2 => ?_) (fun c2 => ?_)
  · have hf := ha_it hf c2
    exact J16  H locs ls hf  hP hD hS (lv_sub hl [0] rfl)
  · have hf := ha_if hf c2
    refine lv_iload_n hx hb dX11_isLetter_6 rfl (lv_at hl 0 rfl) ?_
    refine lv_bipush (v := 122) hx hb dX11_isLetter_7 (by decide) ?_
    refine lv_icmp_gt (tgt := 16) hx hb dX11_isLetter_9 (by decide) (fun c3 => ?_) (fun c3 => ?_)
    · have hf := ha_it hf c3
      exact J16  H locs ls hf  hP hD hS (lv_sub hl [0] rfl)
    · have hf := ha_if hf c3
      refine lv_iconst (v := 1) hx hb dX11_isLetter_12 (by decide) ?_
      refine lv_goto (tgt := 17) hx hb dX11_isLetter_13 (by decide) ?_
      exact J17 1 H locs ls hf  hP hD hS (lv_sub hl [0] rfl)

set_option maxHeartbeats 4000000 in
set_option maxRecDepth 100000 in
theorem c_X11_isDigit {l : Launch} {D : va_G} {cs : Nat → ClassId} {ad kd ln : Nat → Nat} {N : List Nat} {Z : State → Prop}  {p0 : Int32} {S : ha_St} {out : Int32}  (hf : f_X11_isDigit p0 = some out) : ha_Ci l D cs ad kd ln N Z yX11_isDigit wsX11_isDigit ({ frames := 0, cells := 0, slots := 0, locals := 0 } : Room) [.int p0] S out S := by
  refine Met.ofW (cc := cX11_isDigit) (maxL := 1) (ret := (some .boolean)) (by decide +kernel) rfl ?_
  intro p e s m args below meth c s₁ B hml hv
  obtain ⟨rfl, hP, hD, hK, hz⟩ := hv
  have hx := B.exec
  have hb := B.bytes
  have hr := B.returns
  have hts := atoms_spec (ws := wsX11_isDigit) B.pre
  have hown : s.vm.findClass RX11 = some m.cls := findClass_of_methodNamed B.named
  have hlocks := B.notSynchronized
  have hS : va_S (ha_A ad N) s.heap s.heap [] := va_S.rf
  have hl := lv_entry ([.int p0]) (n := 1) (Nat.le_of_ble_eq_true rfl)
  rw [lg_entry_eq]
  generalize (lg_sl ([.int p0]) ++ List.replicate (1 - (lg_sl ([.int p0])).length) Slot.unset).toArray = ls at hl ⊢
  have hl : lv_has ls 1 [(0, .int p0)] := hl
  refine (fun (K0 : ∀ (H : Heap) (locs : List Loc), va_P D vwCl (ha_wl cs ad kd ln N S) H → va_S (ha_A ad N) s.heap H locs → W p l e (headSpec wsX11_isDigit ({ frames := 0, cells := 0, slots := 0, locals := 0 } : Room)).room s m ([.int p0] : List Value).toArray below meth c H locs 0 0 (MQ below (va_Qi (fun (r : Int32) (_ : Unit) => r = out) (fun _ => ha_H D cs ad kd ln N S) (ha_A ad N)) ([.int p0] : List Value).toArray s 0 0 (ha_A ad N)) (F0 m 0 ls [])) => K0 _ _ hP hS) ?_
  intro H locs hP hS
  have hf := ha_rt hf
  have J17 : ∀ (k0 : Int32) (H : Heap) (locs : List Loc) (ls : Array Slot), (f_X11_isDigit_J17 p0 k0).bind some = some out → va_P D vwCl (ha_wl cs ad kd ln N S) H → va_D (ha_A ad N) (ha_wl cs ad kd ln N S) → va_S (ha_A ad N) s.heap H locs → lv_has ls 1 [(0, .int p0)] → W p l e (headSpec wsX11_isDigit ({ frames := 0, cells := 0, slots := 0, locals := 0 } : Room)).room s m ([.int p0] : List Value).toArray below meth c H locs 0 0 (MQ below (va_Qi (fun (r : Int32) (_ : Unit) => r = out) (fun _ => ha_H D cs ad kd ln N S) (ha_A ad N)) ([.int p0] : List Value).toArray s 0 0 (ha_A ad N)) (F0 m 17 ls [.int k0]) := by
    intro k0 H locs ls hf  hP hD hS hl
    unfold f_X11_isDigit_J17 at hf
    obtain ⟨g1, hf⟩ := ha_gds hf
    have he := Option.some.inj hf
    exact ha_retz hx hb hr hlocks hP hD hS dX11_isDigit_17 g1 he rfl
  have J16 : ∀  (H : Heap) (locs : List Loc) (ls : Array Slot), (f_X11_isDigit_J16 p0 ).bind some = some out → va_P D vwCl (ha_wl cs ad kd ln N S) H → va_D (ha_A ad N) (ha_wl cs ad kd ln N S) → va_S (ha_A ad N) s.heap H locs → lv_has ls 1 [(0, .int p0)] → W p l e (headSpec wsX11_isDigit ({ frames := 0, cells := 0, slots := 0, locals := 0 } : Room)).room s m ([.int p0] : List Value).toArray below meth c H locs 0 0 (MQ below (va_Qi (fun (r : Int32) (_ : Unit) => r = out) (fun _ => ha_H D cs ad kd ln N S) (ha_A ad N)) ([.int p0] : List Value).toArray s 0 0 (ha_A ad N)) (F0 m 16 ls []) := by
    intro  H locs ls hf  hP hD hS hl
    unfold f_X11_isDigit_J16 at hf
    refine lv_iconst (v := 0) hx hb dX11_isDigit_16 (by decide) ?_
    exact J17 0 H locs ls hf  hP hD hS (lv_sub hl [0] rfl)
  unfold f_X11_isDigit at hf
  refine lv_iload_n hx hb dX11_isDigit_0 rfl (lv_at hl 0 rfl) ?_
  refine lv_bipush (v := 48) hx hb dX11_isDigit_1 (by decide) ?_
  refine lv_icmp_lt (tgt := 16) hx hb dX11_isDigit_3 (by decide) (fun c2 => ?_) (fun c2 => ?_)
  · have hf := ha_it hf c2
    exact J16  H locs ls hf  hP hD hS (lv_sub hl [0] rfl)
  · have hf := ha_if hf c2
    refine lv_iload_n hx hb dX11_isDigit_6 rfl (lv_at hl 0 rfl) ?_
    refine lv_bipush (v := 57) hx hb dX11_isDigit_7 (by decide) ?_
    refine lv_icmp_gt (tgt := 16) hx hb dX11_isDigit_9 (by decide) (fun c3 => ?_) (fun c3 => ?_)
    · have hf := ha_it hf c3
      exact J16  H locs ls hf  hP hD hS (lv_sub hl [0] rfl)
    · have hf := ha_if hf c3
      refine lv_iconst (v := 1) hx hb dX11_isDigit_12 (by decide) ?_
      refine lv_goto (tgt := 17) hx hb dX11_isDigit_13 (by decide) ?_
      exact J17 1 H locs ls hf  hP hD hS (lv_sub hl [0] rfl)

set_option maxHeartbeats 4000000 in
set_option maxRecDepth 100000 in
theorem c_J7_fill_53178 {l : Launch} {D : va_G} {cs : Nat → ClassId} {ad adK adV : Nat → Nat} {N : List Nat} {Z : State → Prop} (hZ : ha_Zok (ha_A ad N) Z) (hN : ∀ x, xo_kd x < 999 → x ∈ N) (hX : ∀ U, Z U → xo_Z adK adV (ha_A ad N) U) {p0 : Nat} {p1 : Int32} {S : ha_St} {out : ha_St} (h0 : xo_kd p0 = 100) (hf : f_J7_fill_53178 p0 p1 S = some out) : ha_Cv l D cs ad xo_kd xo_ln N Z yJ7_fill_53178 wsJ7_fill_53178 ({ frames := 0, cells := 0, slots := 0, locals := 0 } : Room) [.ref (ad p0), .int p1] S out := by
  refine va_MetF (cc := cJ7_fill_53178) (maxL := 4) (ret := none) (by decide +kernel) rfl ?_
  intro p e s m args below meth c s₁ B hml hv
  obtain ⟨rfl, hP, hD, hK, hz⟩ := hv
  have hx := B.exec
  have hb := B.bytes
  have hr := B.returns
  have hts := atoms_spec (ws := wsJ7_fill_53178) B.pre
  have hown : s.vm.findClass RJ7 = some m.cls := findClass_of_methodNamed B.named
  have hlocks := B.notSynchronized
  have hS : va_S (ha_A ad N) s.heap s.heap [] := va_S.rf
  have hl := lv_entry ([.ref (ad p0), .int p1]) (n := 4) (Nat.le_of_ble_eq_true rfl)
  rw [lg_entry_eq]
  generalize (lg_sl ([.ref (ad p0), .int p1]) ++ List.replicate (4 - (lg_sl ([.ref (ad p0), .int p1])).length) Slot.unset).toArray = ls at hl ⊢
  have hl : lv_has ls 4 [(0, .ref (ad p0)), (1, .int p1)] := hl
  refine (fun (K0 : ∀ (H : Heap) (locs : List Loc), va_P D vwCl (ha_wl cs ad xo_kd xo_ln N S) H → va_S (ha_A ad N) s.heap H locs → W p l e (headSpec wsJ7_fill_53178 ({ frames := 0, cells := 0, slots := 0, locals := 0 } : Room)).room s m ([.ref (ad p0), .int p1] : List Value).toArray below meth c H locs 0 0 (MQ below (va_Qv (fun (_ : Unit) => True) (fun _ => ha_H D cs ad xo_kd xo_ln N out) (ha_A ad N)) ([.ref (ad p0), .int p1] : List Value).toArray s 0 0 (ha_A ad N)) (F0 m 0 ls [])) => K0 _ _ hP hS) ?_
  intro H locs hP hS
  have hf := ha_rt hf
  have J20 : ∀  (S : ha_St) (H : Heap) (locs : List Loc) (ls : Array Slot), (f_J7_fill_53178_J20 p0 p1  S).bind some = some out → va_P D vwCl (ha_wl cs ad xo_kd xo_ln N S) H → va_D (ha_A ad N) (ha_wl cs ad xo_kd xo_ln N S) → va_S (ha_A ad N) s.heap H locs → lv_has ls 4 [(0, .ref (ad p0)), (1, .int p1)] → W p l e (headSpec wsJ7_fill_53178 ({ frames := 0, cells := 0, slots := 0, locals := 0 } : Room)).room s m ([.ref (ad p0), .int p1] : List Value).toArray below meth c H locs 0 0 (MQ below (va_Qv (fun (_ : Unit) => True) (fun _ => ha_H D cs ad xo_kd xo_ln N out) (ha_A ad N)) ([.ref (ad p0), .int p1] : List Value).toArray s 0 0 (ha_A ad N)) (F0 m 20 ls []) := by
    intro  S H locs ls hf  hP hD hS hl
    unfold f_J7_fill_53178_J20 at hf
    have he := Option.some.inj hf
    exact ha_retv hx hb hr hlocks hP hD hS dJ7_fill_53178_20 he
  unfold f_J7_fill_53178 at hf
  refine lv_iconst (v := 0) hx hb dJ7_fill_53178_0 (by decide) ?_
  refine lv_istore_n (lv' := [(2, .int 0), (0, .ref (ad p0)), (1, .int p1)]) hx hb dJ7_fill_53178_1 rfl hl (by decide) rfl (fun ls hl => ?_)
  refine lv_aload_n hx hb dJ7_fill_53178_2 rfl (lv_at hl 1 rfl) ?_
  refine ha_alen hx hb hK hP hN h0 (by decide) (by decide) dJ7_fill_53178_3 ?_
  refine lv_topi (fun x1 ex1 => ?_)
  have hf := ha_nms hf ex1
  refine lv_istore_n (lv' := [(3, .int x1), (2, .int 0), (0, .ref (ad p0)), (1, .int p1)]) hx hb dJ7_fill_53178_4 rfl hl (by decide) rfl (fun ls hl => ?_)
  have key6 : ∀ (K : (ha_St) → Option (ha_St)), (∀  (S : ha_St) (H : Heap) (locs : List Loc) (ls : Array Slot), K S = some out → va_P D vwCl (ha_wl cs ad xo_kd xo_ln N S) H → va_D (ha_A ad N) (ha_wl cs ad xo_kd xo_ln N S) → va_S (ha_A ad N) s.heap H locs → lv_has ls 4 [(0, .ref (ad p0)), (1, .int p1)] → W p l e (headSpec wsJ7_fill_53178 ({ frames := 0, cells := 0, slots := 0, locals := 0 } : Room)).room s m ([.ref (ad p0), .int p1] : List Value).toArray below meth c H locs 0 0 (MQ below (va_Qv (fun (_ : Unit) => True) (fun _ => ha_H D cs ad xo_kd xo_ln N out) (ha_A ad N)) ([.ref (ad p0), .int p1] : List Value).toArray s 0 0 (ha_A ad N)) (F0 m 20 ls [])) → ∀ (n : Nat) (v2 : Int32) (v3 : Int32) (S : ha_St) (H : Heap) (locs : List Loc) (ls : Array Slot), (f_J7_fill_53178_L5i p0 p1 n (v2, v3, S)).bind K = some out → va_P D vwCl (ha_wl cs ad xo_kd xo_ln N S) H → va_D (ha_A ad N) (ha_wl cs ad xo_kd xo_ln N S) → va_S (ha_A ad N) s.heap H locs → lv_has ls 4 [(0, .ref (ad p0)), (1, .int p1), (2, .int v2), (3, .int v3)] → W p l e (headSpec wsJ7_fill_53178 ({ frames := 0, cells := 0, slots := 0, locals := 0 } : Room)).room s m ([.ref (ad p0), .int p1] : List Value).toArray below meth c H locs 0 0 (MQ below (va_Qv (fun (_ : Unit) => True) (fun _ => ha_H D cs ad xo_kd xo_ln N out) (ha_A ad N)) ([.ref (ad p0), .int p1] : List Value).toArray s 0 0 (ha_A ad N)) (F0 m 5 ls []) := by
    intro K hk n
    induction n with
    | zero =>
      intro v2 v3 S H locs ls hf
      exact absurd (show (none : Option (ha_St)) = some out from hf) (fun h => by cases h)
    | succ n ih =>
      intro v2 v3 S H locs ls hf  hP hD hS hl
      have hf : (f_J7_fill_53178_L5 p0 p1 (f_J7_fill_53178_L5i p0 p1 n) v2 v3 S).bind K = some out := hf
      unfold f_J7_fill_53178_L5 at hf
      refine lv_iload_n hx hb dJ7_fill_53178_5 rfl (lv_at hl 2 rfl) ?_
      refine lv_iload_n hx hb dJ7_fill_53178_6 rfl (lv_at hl 3 rfl) ?_
      refine lv_icmp_ge (tgt := 20) hx hb dJ7_fill_53178_7 (by decide) (fun c2 => ?_) (fun c2 => ?_)
      · have hf := ha_it hf c2
        exact hk  S H locs ls hf  hP hD hS (lv_sub hl [0, 1] rfl)
      · have hf := ha_if hf c2
        refine lv_aload_n hx hb dJ7_fill_53178_10 rfl (lv_at hl 0 rfl) ?_
        refine lv_iload_n hx hb dJ7_fill_53178_11 rfl (lv_at hl 2 rfl) ?_
        refine lv_iload_n hx hb dJ7_fill_53178_12 rfl (lv_at hl 1 rfl) ?_
        obtain ⟨g3, hf⟩ := ha_gds hf
        refine ha_iast hx hb hK hP hD hS hN h0 g3 dJ7_fill_53178_13 (fun S4 H locs eS4 hP hD hS => ?_)
        have hf := ha_nms hf eS4
        obtain ⟨x5, ex5⟩ : ∃ y : Int32, y = (v2 : Int32) + 1 := ⟨_, rfl⟩
        have hf := ha_nms hf ex5
        refine lv_iinc (v := x5) (lv' := [(2, .int x5), (0, .ref (ad p0)), (1, .int p1), (3, .int v3)]) hx hb dJ7_fill_53178_14 hl (k := 2) rfl (by rw [ex5]; rfl) (by decide) rfl (fun ls hl => ?_)
        refine lv_goto (tgt := 5) hx hb dJ7_fill_53178_17 (by decide) ?_
        exact ih x5 v3 S4 H locs ls hf  hP hD hS (lv_sub hl [1, 2, 0, 3] rfl)
  refine key6 _ (fun  S H locs ls hf  hP hD hS hl => ?_) ha_fu 0 x1 S H locs ls (ha_as hf)  hP hD hS (lv_sub hl [2, 3, 1, 0] rfl)
  have hf : (f_J7_fill_53178_J20 p0 p1  S).bind some = some out := hf
  exact J20  S H locs ls hf  hP hD hS (lv_sub hl [0, 1] rfl)

set_option maxHeartbeats 4000000 in
set_option maxRecDepth 100000 in
theorem c_J9_floorMod_7cf53 {l : Launch} {D : va_G} {cs : Nat → ClassId} {ad kd ln : Nat → Nat} {N : List Nat} {Z : State → Prop}  {p0 : Int32} {p1 : Int32} {S : ha_St} {out : Int32}  (hf : f_J9_floorMod_7cf53 p0 p1 = some out) : ha_Ci l D cs ad kd ln N Z yJ9_floorMod_7cf53 wsJ9_floorMod_7cf53 ({ frames := 0, cells := 0, slots := 0, locals := 0 } : Room) [.int p0, .int p1] S out S := by
  refine va_MetF (cc := cJ9_floorMod_7cf53) (maxL := 3) (ret := (some .int)) (by decide +kernel) rfl ?_
  intro p e s m args below meth c s₁ B hml hv
  obtain ⟨rfl, hP, hD, hK, hz⟩ := hv
  have hx := B.exec
  have hb := B.bytes
  have hr := B.returns
  have hts := atoms_spec (ws := wsJ9_floorMod_7cf53) B.pre
  have hown : s.vm.findClass RJ9 = some m.cls := findClass_of_methodNamed B.named
  have hlocks := B.notSynchronized
  have hS : va_S (ha_A ad N) s.heap s.heap [] := va_S.rf
  have hl := lv_entry ([.int p0, .int p1]) (n := 3) (Nat.le_of_ble_eq_true rfl)
  rw [lg_entry_eq]
  generalize (lg_sl ([.int p0, .int p1]) ++ List.replicate (3 - (lg_sl ([.int p0, .int p1])).length) Slot.unset).toArray = ls at hl ⊢
  have hl : lv_has ls 3 [(0, .int p0), (1, .int p1)] := hl
  refine (fun (K0 : ∀ (H : Heap) (locs : List Loc), va_P D vwCl (ha_wl cs ad kd ln N S) H → va_S (ha_A ad N) s.heap H locs → W p l e (headSpec wsJ9_floorMod_7cf53 ({ frames := 0, cells := 0, slots := 0, locals := 0 } : Room)).room s m ([.int p0, .int p1] : List Value).toArray below meth c H locs 0 0 (MQ below (va_Qi (fun (r : Int32) (_ : Unit) => r = out) (fun _ => ha_H D cs ad kd ln N S) (ha_A ad N)) ([.int p0, .int p1] : List Value).toArray s 0 0 (ha_A ad N)) (F0 m 0 ls [])) => K0 _ _ hP hS) ?_
  intro H locs hP hS
  have hf := ha_rt hf
  have J18 : ∀ (v2 : Int32) (H : Heap) (locs : List Loc) (ls : Array Slot), (f_J9_floorMod_7cf53_J18 p0 p1 v2).bind some = some out → va_P D vwCl (ha_wl cs ad kd ln N S) H → va_D (ha_A ad N) (ha_wl cs ad kd ln N S) → va_S (ha_A ad N) s.heap H locs → lv_has ls 3 [(0, .int p0), (1, .int p1), (2, .int v2)] → W p l e (headSpec wsJ9_floorMod_7cf53 ({ frames := 0, cells := 0, slots := 0, locals := 0 } : Room)).room s m ([.int p0, .int p1] : List Value).toArray below meth c H locs 0 0 (MQ below (va_Qi (fun (r : Int32) (_ : Unit) => r = out) (fun _ => ha_H D cs ad kd ln N S) (ha_A ad N)) ([.int p0, .int p1] : List Value).toArray s 0 0 (ha_A ad N)) (F0 m 18 ls []) := by
    intro v2 H locs ls hf  hP hD hS hl
    unfold f_J9_floorMod_7cf53_J18 at hf
    refine lv_iload_n hx hb dJ9_floorMod_7cf53_18 rfl (lv_at hl 2 rfl) ?_
    have he := Option.some.inj hf
    exact ha_reti hx hb hr hlocks hP hD hS dJ9_floorMod_7cf53_19 he rfl
  unfold f_J9_floorMod_7cf53 at hf
  refine lv_iload_n hx hb dJ9_floorMod_7cf53_0 rfl (lv_at hl 0 rfl) ?_
  refine lv_iload_n hx hb dJ9_floorMod_7cf53_1 rfl (lv_at hl 1 rfl) ?_
  obtain ⟨g1, hf⟩ := ha_gds hf
  refine lv_irem hx hb dJ9_floorMod_7cf53_2 g1 ?_
  refine lv_topi (fun x2 ex2 => ?_)
  have hf := ha_nms hf ex2
  refine lv_istore_n (lv' := [(2, .int x2), (0, .int p0), (1, .int p1)]) hx hb dJ9_floorMod_7cf53_3 rfl hl (by decide) rfl (fun ls hl => ?_)
  refine lv_iload_n hx hb dJ9_floorMod_7cf53_4 rfl (lv_at hl 1 rfl) ?_
  refine lv_iload_n hx hb dJ9_floorMod_7cf53_5 rfl (lv_at hl 2 rfl) ?_
  refine lv_ixor hx hb dJ9_floorMod_7cf53_6 ?_
  refine lv_if_ge (tgt := 18) hx hb dJ9_floorMod_7cf53_7 (by decide) (fun c3 => ?_) (fun c3 => ?_)
  · have hf := ha_it hf c3
    exact J18 x2 H locs ls hf  hP hD hS (lv_sub hl [1, 2, 0] rfl)
  · have hf := ha_if hf c3
    refine lv_iload_n hx hb dJ9_floorMod_7cf53_10 rfl (lv_at hl 0 rfl) ?_
    refine lv_if_eq (tgt := 18) hx hb dJ9_floorMod_7cf53_11 (by decide) (fun c4 => ?_) (fun c4 => ?_)
    · have hf := ha_it hf c4
      exact J18 x2 H locs ls hf  hP hD hS (lv_sub hl [1, 2, 0] rfl)
    · have hf := ha_if hf c4
      refine lv_iload_n hx hb dJ9_floorMod_7cf53_14 rfl (lv_at hl 0 rfl) ?_
      refine lv_iload_n hx hb dJ9_floorMod_7cf53_15 rfl (lv_at hl 2 rfl) ?_
      refine lv_iadd hx hb dJ9_floorMod_7cf53_16 ?_
      have he := Option.some.inj hf
      exact ha_reti hx hb hr hlocks hP hD hS dJ9_floorMod_7cf53_17 he rfl

set_option maxHeartbeats 4000000 in
set_option maxRecDepth 100000 in
theorem c_J6_bitCount_0f7a4 {l : Launch} {D : va_G} {cs : Nat → ClassId} {ad kd ln : Nat → Nat} {N : List Nat} {Z : State → Prop}  {p0 : Int32} {S : ha_St} {out : Int32}  (hf : f_J6_bitCount_0f7a4 p0 = some out) : ha_Ci l D cs ad kd ln N Z yJ6_bitCount_0f7a4 wsJ6_bitCount_0f7a4 ({ frames := 0, cells := 0, slots := 0, locals := 0 } : Room) [.int p0] S out S := by
  refine va_MetF (cc := cJ6_bitCount_0f7a4) (maxL := 1) (ret := (some .int)) (by decide +kernel) rfl ?_
  intro p e s m args below meth c s₁ B hml hv
  obtain ⟨rfl, hP, hD, hK, hz⟩ := hv
  have hx := B.exec
  have hb := B.bytes
  have hr := B.returns
  have hts := atoms_spec (ws := wsJ6_bitCount_0f7a4) B.pre
  have hown : s.vm.findClass RJ6 = some m.cls := findClass_of_methodNamed B.named
  have hlocks := B.notSynchronized
  have hS : va_S (ha_A ad N) s.heap s.heap [] := va_S.rf
  have cn265 := hts (.constant RJ6 265 (1431655765)) (by decide +kernel)
  have cn266 := hts (.constant RJ6 266 (858993459)) (by decide +kernel)
  have cn267 := hts (.constant RJ6 267 (252645135)) (by decide +kernel)
  have hl := lv_entry ([.int p0]) (n := 1) (Nat.le_of_ble_eq_true rfl)
  rw [lg_entry_eq]
  generalize (lg_sl ([.int p0]) ++ List.replicate (1 - (lg_sl ([.int p0])).length) Slot.unset).toArray = ls at hl ⊢
  have hl : lv_has ls 1 [(0, .int p0)] := hl
  refine (fun (K0 : ∀ (H : Heap) (locs : List Loc), va_P D vwCl (ha_wl cs ad kd ln N S) H → va_S (ha_A ad N) s.heap H locs → W p l e (headSpec wsJ6_bitCount_0f7a4 ({ frames := 0, cells := 0, slots := 0, locals := 0 } : Room)).room s m ([.int p0] : List Value).toArray below meth c H locs 0 0 (MQ below (va_Qi (fun (r : Int32) (_ : Unit) => r = out) (fun _ => ha_H D cs ad kd ln N S) (ha_A ad N)) ([.int p0] : List Value).toArray s 0 0 (ha_A ad N)) (F0 m 0 ls [])) => K0 _ _ hP hS) ?_
  intro H locs hP hS
  have hf := ha_rt hf
  unfold f_J6_bitCount_0f7a4 at hf
  refine lv_iload_n hx hb dJ6_bitCount_0f7a4_0 rfl (lv_at hl 0 rfl) ?_
  refine lv_iload_n hx hb dJ6_bitCount_0f7a4_1 rfl (lv_at hl 0 rfl) ?_
  refine lv_iconst (v := 1) hx hb dJ6_bitCount_0f7a4_2 (by decide) ?_
  refine lv_iushr (v := (ha_ush p0 1)) hx hb dJ6_bitCount_0f7a4_3 rfl ?_
  refine lv_ldcw hx hb hown cn265 dJ6_bitCount_0f7a4_4 ?_
  refine lv_iand hx hb dJ6_bitCount_0f7a4_7 ?_
  refine lv_isub hx hb dJ6_bitCount_0f7a4_8 ?_
  refine lv_topi (fun x1 ex1 => ?_)
  have hf := ha_nms hf ex1
  refine lv_istore_n (lv' := [(0, .int x1)]) hx hb dJ6_bitCount_0f7a4_9 rfl hl (by decide) rfl (fun ls hl => ?_)
  refine lv_iload_n hx hb dJ6_bitCount_0f7a4_10 rfl (lv_at hl 0 rfl) ?_
  refine lv_ldcw hx hb hown cn266 dJ6_bitCount_0f7a4_11 ?_
  refine lv_iand hx hb dJ6_bitCount_0f7a4_14 ?_
  refine lv_iload_n hx hb dJ6_bitCount_0f7a4_15 rfl (lv_at hl 0 rfl) ?_
  refine lv_iconst (v := 2) hx hb dJ6_bitCount_0f7a4_16 (by decide) ?_
  refine lv_iushr (v := (ha_ush x1 2)) hx hb dJ6_bitCount_0f7a4_17 rfl ?_
  refine lv_ldcw hx hb hown cn266 dJ6_bitCount_0f7a4_18 ?_
  refine lv_iand hx hb dJ6_bitCount_0f7a4_21 ?_
  refine lv_iadd hx hb dJ6_bitCount_0f7a4_22 ?_
  refine lv_topi (fun x2 ex2 => ?_)
  have hf := ha_nms hf ex2
  refine lv_istore_n (lv' := [(0, .int x2)]) hx hb dJ6_bitCount_0f7a4_23 rfl hl (by decide) rfl (fun ls hl => ?_)
  refine lv_iload_n hx hb dJ6_bitCount_0f7a4_24 rfl (lv_at hl 0 rfl) ?_
  refine lv_iload_n hx hb dJ6_bitCount_0f7a4_25 rfl (lv_at hl 0 rfl) ?_
  refine lv_iconst (v := 4) hx hb dJ6_bitCount_0f7a4_26 (by decide) ?_
  refine lv_iushr (v := (ha_ush x2 4)) hx hb dJ6_bitCount_0f7a4_27 rfl ?_
  refine lv_iadd hx hb dJ6_bitCount_0f7a4_28 ?_
  refine lv_ldcw hx hb hown cn267 dJ6_bitCount_0f7a4_29 ?_
  refine lv_iand hx hb dJ6_bitCount_0f7a4_32 ?_
  refine lv_topi (fun x3 ex3 => ?_)
  have hf := ha_nms hf ex3
  refine lv_istore_n (lv' := [(0, .int x3)]) hx hb dJ6_bitCount_0f7a4_33 rfl hl (by decide) rfl (fun ls hl => ?_)
  refine lv_iload_n hx hb dJ6_bitCount_0f7a4_34 rfl (lv_at hl 0 rfl) ?_
  refine lv_iload_n hx hb dJ6_bitCount_0f7a4_35 rfl (lv_at hl 0 rfl) ?_
  refine lv_bipush (v := 8) hx hb dJ6_bitCount_0f7a4_36 (by decide) ?_
  refine lv_iushr (v := (ha_ush x3 8)) hx hb dJ6_bitCount_0f7a4_38 rfl ?_
  refine lv_iadd hx hb dJ6_bitCount_0f7a4_39 ?_
  refine lv_topi (fun x4 ex4 => ?_)
  have hf := ha_nms hf ex4
  refine lv_istore_n (lv' := [(0, .int x4)]) hx hb dJ6_bitCount_0f7a4_40 rfl hl (by decide) rfl (fun ls hl => ?_)
  refine lv_iload_n hx hb dJ6_bitCount_0f7a4_41 rfl (lv_at hl 0 rfl) ?_
  refine lv_iload_n hx hb dJ6_bitCount_0f7a4_42 rfl (lv_at hl 0 rfl) ?_
  refine lv_bipush (v := 16) hx hb dJ6_bitCount_0f7a4_43 (by decide) ?_
  refine lv_iushr (v := (ha_ush x4 16)) hx hb dJ6_bitCount_0f7a4_45 rfl ?_
  refine lv_iadd hx hb dJ6_bitCount_0f7a4_46 ?_
  refine lv_topi (fun x5 ex5 => ?_)
  have hf := ha_nms hf ex5
  refine lv_istore_n (lv' := [(0, .int x5)]) hx hb dJ6_bitCount_0f7a4_47 rfl hl (by decide) rfl (fun ls hl => ?_)
  refine lv_iload_n hx hb dJ6_bitCount_0f7a4_48 rfl (lv_at hl 0 rfl) ?_
  refine lv_bipush (v := 63) hx hb dJ6_bitCount_0f7a4_49 (by decide) ?_
  refine lv_iand hx hb dJ6_bitCount_0f7a4_51 ?_
  have he := Option.some.inj hf
  exact ha_reti hx hb hr hlocks hP hD hS dJ6_bitCount_0f7a4_52 he rfl

set_option maxHeartbeats 4000000 in
set_option maxRecDepth 100000 in
theorem c_X10_append {l : Launch} {D : va_G} {cs : Nat → ClassId} {ad adK adV : Nat → Nat} {N : List Nat} {Z : State → Prop} (hZ : ha_Zok (ha_A ad N) Z) (hN : ∀ x, xo_kd x < 999 → x ∈ N) (hX : ∀ U, Z U → xo_Z adK adV (ha_A ad N) U) {p0 : Nat} {p1 : Int32} {S : ha_St} {out : ha_St} (h0 : xo_kd p0 = 10) (hf : f_X10_append p0 p1 S = some out) : ha_Cv l D cs ad xo_kd xo_ln N Z yX10_append wsX10_append ({ frames := 0, cells := 0, slots := 0, locals := 0 } : Room) [.ref (ad p0), .int p1] S out := by
  refine Met.ofW (cc := cX10_append) (maxL := 3) (ret := none) (by decide +kernel) rfl ?_
  intro p e s m args below meth c s₁ B hml hv
  obtain ⟨rfl, hP, hD, hK, hz⟩ := hv
  have hx := B.exec
  have hb := B.bytes
  have hr := B.returns
  have hts := atoms_spec (ws := wsX10_append) B.pre
  have hown : s.vm.findClass RX10 = some m.cls := findClass_of_methodNamed B.named
  have hlocks := B.notSynchronized
  have hS : va_S (ha_A ad N) s.heap s.heap [] := va_S.rf
  have hi10 : ∀ w ∈ wsX100, w ∈ wsX10_append := fun w h => List.mem_cons_of_mem _ (List.mem_append_right _ h)
  have q15 : ha_Fk s ([.ref (ad p0), .int p1] : List Value).toArray RX10 15 10 1 0 := ⟨RX10, TX10, 2, wsX10_append, rfl, by decide, by decide, rfl, rfl, hts, hi10, hts (.fieldLink RX10 15 "HillArms$Tape" "size" "I") (by decide +kernel)⟩
  have q9 : ha_Fk s ([.ref (ad p0), .int p1] : List Value).toArray RX10 9 10 0 1 := ⟨RX10, TX10, 2, wsX10_append, rfl, by decide, by decide, rfl, rfl, hts, hi10, hts (.fieldLink RX10 9 "HillArms$Tape" "bytes" "[I") (by decide +kernel)⟩
  have r15 : ha_Fp s ([.ref (ad p0), .int p1] : List Value).toArray RX10 15 10 1 0 .int := ⟨RX10, TX10, 2, wsX10_append, tyX10, rfl, by decide, by decide, rfl, rfl, hts, hi10, hts (.fieldLink RX10 15 "HillArms$Tape" "size" "I") (by decide +kernel), tyX10_ok, nmX10, rfl, by decide +kernel⟩
  have hl := lv_entry ([.ref (ad p0), .int p1]) (n := 3) (Nat.le_of_ble_eq_true rfl)
  rw [lg_entry_eq]
  generalize (lg_sl ([.ref (ad p0), .int p1]) ++ List.replicate (3 - (lg_sl ([.ref (ad p0), .int p1])).length) Slot.unset).toArray = ls at hl ⊢
  have hl : lv_has ls 3 [(0, .ref (ad p0)), (1, .int p1)] := hl
  refine (fun (K0 : ∀ (H : Heap) (locs : List Loc), va_P D vwCl (ha_wl cs ad xo_kd xo_ln N S) H → va_S (ha_A ad N) s.heap H locs → W p l e (headSpec wsX10_append ({ frames := 0, cells := 0, slots := 0, locals := 0 } : Room)).room s m ([.ref (ad p0), .int p1] : List Value).toArray below meth c H locs 0 0 (MQ below (va_Qv (fun (_ : Unit) => True) (fun _ => ha_H D cs ad xo_kd xo_ln N out) (ha_A ad N)) ([.ref (ad p0), .int p1] : List Value).toArray s 0 0 (ha_A ad N)) (F0 m 0 ls [])) => K0 _ _ hP hS) ?_
  intro H locs hP hS
  have hf := ha_rt hf
  have J49 : ∀  (S : ha_St) (H : Heap) (locs : List Loc) (ls : Array Slot), (f_X10_append_J49 p0 p1  S).bind some = some out → va_P D vwCl (ha_wl cs ad xo_kd xo_ln N S) H → va_D (ha_A ad N) (ha_wl cs ad xo_kd xo_ln N S) → va_S (ha_A ad N) s.heap H locs → lv_has ls 3 [(0, .ref (ad p0)), (1, .int p1)] → W p l e (headSpec wsX10_append ({ frames := 0, cells := 0, slots := 0, locals := 0 } : Room)).room s m ([.ref (ad p0), .int p1] : List Value).toArray below meth c H locs 0 0 (MQ below (va_Qv (fun (_ : Unit) => True) (fun _ => ha_H D cs ad xo_kd xo_ln N out) (ha_A ad N)) ([.ref (ad p0), .int p1] : List Value).toArray s 0 0 (ha_A ad N)) (F0 m 49 ls []) := by
    intro  S H locs ls hf  hP hD hS hl
    unfold f_X10_append_J49 at hf
    have he := Option.some.inj hf
    exact ha_retv hx hb hr hlocks hP hD hS dX10_append_49 he
  unfold f_X10_append at hf
  refine lv_bipush (v := 24) hx hb dX10_append_0 (by decide) ?_
  refine lv_istore_n (lv' := [(2, .int 24), (0, .ref (ad p0)), (1, .int p1)]) hx hb dX10_append_2 rfl hl (by decide) rfl (fun ls hl => ?_)
  have key8 : ∀ (K : (ha_St) → Option (ha_St)), (∀  (S : ha_St) (H : Heap) (locs : List Loc) (ls : Array Slot), K S = some out → va_P D vwCl (ha_wl cs ad xo_kd xo_ln N S) H → va_D (ha_A ad N) (ha_wl cs ad xo_kd xo_ln N S) → va_S (ha_A ad N) s.heap H locs → lv_has ls 3 [(0, .ref (ad p0)), (1, .int p1)] → W p l e (headSpec wsX10_append ({ frames := 0, cells := 0, slots := 0, locals := 0 } : Room)).room s m ([.ref (ad p0), .int p1] : List Value).toArray below meth c H locs 0 0 (MQ below (va_Qv (fun (_ : Unit) => True) (fun _ => ha_H D cs ad xo_kd xo_ln N out) (ha_A ad N)) ([.ref (ad p0), .int p1] : List Value).toArray s 0 0 (ha_A ad N)) (F0 m 49 ls [])) → ∀ (n : Nat) (v2 : Int32) (S : ha_St) (H : Heap) (locs : List Loc) (ls : Array Slot), (f_X10_append_L3i p0 p1 n (v2, S)).bind K = some out → va_P D vwCl (ha_wl cs ad xo_kd xo_ln N S) H → va_D (ha_A ad N) (ha_wl cs ad xo_kd xo_ln N S) → va_S (ha_A ad N) s.heap H locs → lv_has ls 3 [(0, .ref (ad p0)), (1, .int p1), (2, .int v2)] → W p l e (headSpec wsX10_append ({ frames := 0, cells := 0, slots := 0, locals := 0 } : Room)).room s m ([.ref (ad p0), .int p1] : List Value).toArray below meth c H locs 0 0 (MQ below (va_Qv (fun (_ : Unit) => True) (fun _ => ha_H D cs ad xo_kd xo_ln N out) (ha_A ad N)) ([.ref (ad p0), .int p1] : List Value).toArray s 0 0 (ha_A ad N)) (F0 m 3 ls []) := by
    intro K hk n
    induction n with
    | zero =>
      intro v2 S H locs ls hf
      exact absurd (show (none : Option (ha_St)) = some out from hf) (fun h => by cases h)
    | succ n ih =>
      intro v2 S H locs ls hf  hP hD hS hl
      have hf : (f_X10_append_L3 p0 p1 (f_X10_append_L3i p0 p1 n) v2 S).bind K = some out := hf
      unfold f_X10_append_L3 at hf
      refine lv_iload_n hx hb dX10_append_3 rfl (lv_at hl 2 rfl) ?_
      refine lv_if_lt (tgt := 49) hx hb dX10_append_4 (by decide) (fun c1 => ?_) (fun c1 => ?_)
      · have hf := ha_it hf c1
        exact hk  S H locs ls hf  hP hD hS (lv_sub hl [0, 1] rfl)
      · have hf := ha_if hf c1
        refine lv_aload_n hx hb dX10_append_7 rfl (lv_at hl 0 rfl) ?_
        refine ha_geti hx hb hown hK hP q15 hN h0 dX10_append_8 ?_
        refine lv_sipush (v := 440) hx hb dX10_append_11 (by decide) ?_
        refine lv_icmp_ge (tgt := 49) hx hb dX10_append_14 (by decide) (fun c2 => ?_) (fun c2 => ?_)
        · have hf := ha_it hf c2
          exact hk  S H locs ls hf  hP hD hS (lv_sub hl [0, 1] rfl)
        · have hf := ha_if hf c2
          refine lv_aload_n hx hb dX10_append_17 rfl (lv_at hl 0 rfl) ?_
          obtain ⟨r3, wr3, hf⟩ := ha_bds hf
          obtain ⟨wr3, hr3⟩ := ha_rf_some wr3
          refine ha_getr hx hb hown hK hP q9 hN h0 wr3 dX10_append_18 ?_
          refine lv_aload_n hx hb dX10_append_21 rfl (lv_at hl 0 rfl) ?_
          refine ha_geti hx hb hown hK hP q15 hN h0 dX10_append_22 ?_
          refine lv_iload_n hx hb dX10_append_25 rfl (lv_at hl 1 rfl) ?_
          refine lv_iload_n hx hb dX10_append_26 rfl (lv_at hl 2 rfl) ?_
          refine lv_iushr (v := (ha_ush p1 v2)) hx hb dX10_append_27 rfl ?_
          refine lv_sipush (v := 255) hx hb dX10_append_28 (by decide) ?_
          refine lv_iand hx hb dX10_append_31 ?_
          obtain ⟨g4, hf⟩ := ha_gds hf
          refine ha_iast hx hb hK hP hD hS hN hr3 g4 dX10_append_32 (fun S5 H locs eS5 hP hD hS => ?_)
          have hf := ha_nms hf eS5
          refine lv_aload_n hx hb dX10_append_33 rfl (lv_at hl 0 rfl) ?_
          refine lv_dup hx hb dX10_append_34 rfl ?_
          refine ha_geti hx hb hown hK hP q15 hN h0 dX10_append_35 ?_
          refine lv_iconst (v := 1) hx hb dX10_append_38 (by decide) ?_
          refine lv_iadd hx hb dX10_append_39 ?_
          refine ha_puti hx hb hown hK hP hD hS r15 hN h0 dX10_append_40 (fun S6 H locs eS6 hP hD hS => ?_)
          have hf := ha_nms hf eS6
          obtain ⟨x7, ex7⟩ : ∃ y : Int32, y = (v2 : Int32) + (-8) := ⟨_, rfl⟩
          have hf := ha_nms hf ex7
          refine lv_iinc (v := x7) (lv' := [(2, .int x7), (0, .ref (ad p0)), (1, .int p1)]) hx hb dX10_append_43 hl (k := 2) rfl (by rw [ex7]; rfl) (by decide) rfl (fun ls hl => ?_)
          refine lv_goto (tgt := 3) hx hb dX10_append_46 (by decide) ?_
          exact ih x7 S6 H locs ls hf  hP hD hS (lv_sub hl [1, 2, 0] rfl)
  refine key8 _ (fun  S H locs ls hf  hP hD hS hl => ?_) ha_fu 24 S H locs ls (ha_as hf)  hP hD hS (lv_sub hl [1, 2, 0] rfl)
  have hf : (f_X10_append_J49 p0 p1  S).bind some = some out := hf
  exact J49  S H locs ls hf  hP hD hS (lv_sub hl [0, 1] rfl)

set_option maxHeartbeats 4000000 in
set_option maxRecDepth 100000 in
theorem c_X10_isText {l : Launch} {D : va_G} {cs : Nat → ClassId} {ad adK adV : Nat → Nat} {N : List Nat} {Z : State → Prop} (hZ : ha_Zok (ha_A ad N) Z) (hN : ∀ x, xo_kd x < 999 → x ∈ N) (hX : ∀ U, Z U → xo_Z adK adV (ha_A ad N) U) {p0 : Nat} {p1 : Int32} {S : ha_St} {out : Int32 × ha_St} (h0 : xo_kd p0 = 10) (hf : f_X10_isText p0 p1 S = some out) : ha_Ci l D cs ad xo_kd xo_ln N Z yX10_isText wsX10_isText ({ frames := 1, cells := 0, slots := 0, locals := 20 } : Room) [.ref (ad p0), .int p1] S out.1 out.2 := by
  refine Met.ofW (cc := cX10_isText) (maxL := 5) (ret := (some .boolean)) (by decide +kernel) rfl ?_
  intro p e s m args below meth c s₁ B hml hv
  obtain ⟨rfl, hP, hD, hK, hz⟩ := hv
  have hx := B.exec
  have hb := B.bytes
  have hr := B.returns
  have hts := atoms_spec (ws := wsX10_isText) B.pre
  have hown : s.vm.findClass RX10 = some m.cls := findClass_of_methodNamed B.named
  have hlocks := B.notSynchronized
  have hS : va_S (ha_A ad N) s.heap s.heap [] := va_S.rf
  have hi10 : ∀ w ∈ wsX100, w ∈ wsX10_isText := fun w h => List.mem_cons_of_mem _ (List.mem_append_right _ h)
  have q15 : ha_Fk s ([.ref (ad p0), .int p1] : List Value).toArray RX10 15 10 1 0 := ⟨RX10, TX10, 2, wsX10_isText, rfl, by decide, by decide, rfl, rfl, hts, hi10, hts (.fieldLink RX10 15 "HillArms$Tape" "size" "I") (by decide +kernel)⟩
  have q9 : ha_Fk s ([.ref (ad p0), .int p1] : List Value).toArray RX10 9 10 0 1 := ⟨RX10, TX10, 2, wsX10_isText, rfl, by decide, by decide, rfl, rfl, hts, hi10, hts (.fieldLink RX10 9 "HillArms$Tape" "bytes" "[I") (by decide +kernel)⟩
  have hl := lv_entry ([.ref (ad p0), .int p1]) (n := 5) (Nat.le_of_ble_eq_true rfl)
  rw [lg_entry_eq]
  generalize (lg_sl ([.ref (ad p0), .int p1]) ++ List.replicate (5 - (lg_sl ([.ref (ad p0), .int p1])).length) Slot.unset).toArray = ls at hl ⊢
  have hl : lv_has ls 5 [(0, .ref (ad p0)), (1, .int p1)] := hl
  refine (fun (K0 : ∀ (H : Heap) (locs : List Loc), va_P D vwCl (ha_wl cs ad xo_kd xo_ln N S) H → va_S (ha_A ad N) s.heap H locs → W p l e (headSpec wsX10_isText ({ frames := 1, cells := 0, slots := 0, locals := 20 } : Room)).room s m ([.ref (ad p0), .int p1] : List Value).toArray below meth c H locs 0 0 (MQ below (va_Qi (fun (r : Int32) (_ : Unit) => r = out.1) (fun _ => ha_H D cs ad xo_kd xo_ln N out.2) (ha_A ad N)) ([.ref (ad p0), .int p1] : List Value).toArray s 0 0 (ha_A ad N)) (F0 m 0 ls [])) => K0 _ _ hP hS) ?_
  intro H locs hP hS
  have hf := ha_rt hf
  have J72 : ∀ (v2 : Int32) (S : ha_St) (H : Heap) (locs : List Loc) (ls : Array Slot), (f_X10_isText_J72 p0 p1 v2 S).bind some = some out → va_P D vwCl (ha_wl cs ad xo_kd xo_ln N S) H → va_D (ha_A ad N) (ha_wl cs ad xo_kd xo_ln N S) → va_S (ha_A ad N) s.heap H locs → lv_has ls 5 [(0, .ref (ad p0)), (1, .int p1), (2, .int v2)] → W p l e (headSpec wsX10_isText ({ frames := 1, cells := 0, slots := 0, locals := 20 } : Room)).room s m ([.ref (ad p0), .int p1] : List Value).toArray below meth c H locs 0 0 (MQ below (va_Qi (fun (r : Int32) (_ : Unit) => r = out.1) (fun _ => ha_H D cs ad xo_kd xo_ln N out.2) (ha_A ad N)) ([.ref (ad p0), .int p1] : List Value).toArray s 0 0 (ha_A ad N)) (F0 m 72 ls []) := by
    intro v2 S H locs ls hf  hP hD hS hl
    unfold f_X10_isText_J72 at hf
    refine lv_iload_n hx hb dX10_isText_72 rfl (lv_at hl 2 rfl) ?_
    obtain ⟨g1, hf⟩ := ha_gds hf
    have he := Option.some.inj hf
    exact ha_retz hx hb hr hlocks hP hD hS dX10_isText_73 g1 (ha_e1 he) (ha_e2 he)
  have J16 : ∀  (S : ha_St) (H : Heap) (locs : List Loc) (ls : Array Slot), (f_X10_isText_J16 p0 p1  S).bind some = some out → va_P D vwCl (ha_wl cs ad xo_kd xo_ln N S) H → va_D (ha_A ad N) (ha_wl cs ad xo_kd xo_ln N S) → va_S (ha_A ad N) s.heap H locs → lv_has ls 5 [(0, .ref (ad p0)), (1, .int p1)] → W p l e (headSpec wsX10_isText ({ frames := 1, cells := 0, slots := 0, locals := 20 } : Room)).room s m ([.ref (ad p0), .int p1] : List Value).toArray below meth c H locs 0 0 (MQ below (va_Qi (fun (r : Int32) (_ : Unit) => r = out.1) (fun _ => ha_H D cs ad xo_kd xo_ln N out.2) (ha_A ad N)) ([.ref (ad p0), .int p1] : List Value).toArray s 0 0 (ha_A ad N)) (F0 m 16 ls []) := by
    intro  S H locs ls hf  hP hD hS hl
    unfold f_X10_isText_J16 at hf
    refine lv_iconst (v := 0) hx hb dX10_isText_16 (by decide) ?_
    have he := Option.some.inj hf
    exact ha_retz hx hb hr hlocks hP hD hS dX10_isText_17 (by decide) (ha_e1 he) (ha_e2 he)
  unfold f_X10_isText at hf
  refine lv_aload_n hx hb dX10_isText_0 rfl (lv_at hl 0 rfl) ?_
  refine ha_geti hx hb hown hK hP q15 hN h0 dX10_isText_1 ?_
  refine lv_iconst (v := 1) hx hb dX10_isText_4 (by decide) ?_
  refine lv_icmp_lt (tgt := 16) hx hb dX10_isText_5 (by decide) (fun c2 => ?_) (fun c2 => ?_)
  · have hf := ha_it hf c2
    exact J16  S H locs ls hf  hP hD hS (lv_sub hl [0, 1] rfl)
  · have hf := ha_if hf c2
    refine lv_aload_n hx hb dX10_isText_8 rfl (lv_at hl 0 rfl) ?_
    refine ha_geti hx hb hown hK hP q15 hN h0 dX10_isText_9 ?_
    refine lv_iload_n hx hb dX10_isText_12 rfl (lv_at hl 1 rfl) ?_
    refine lv_icmp_le (tgt := 18) hx hb dX10_isText_13 (by decide) (fun c3 => ?_) (fun c3 => ?_)
    · have hf := ha_it hf c3
      refine lv_iconst (v := 0) hx hb dX10_isText_18 (by decide) ?_
      refine lv_istore_n (lv' := [(2, .int 0), (0, .ref (ad p0)), (1, .int p1)]) hx hb dX10_isText_19 rfl hl (by decide) rfl (fun ls hl => ?_)
      refine lv_iconst (v := 0) hx hb dX10_isText_20 (by decide) ?_
      refine lv_istore_n (lv' := [(3, .int 0), (2, .int 0), (0, .ref (ad p0)), (1, .int p1)]) hx hb dX10_isText_21 rfl hl (by decide) rfl (fun ls hl => ?_)
      have key14 : ∀ (K : ((Int32 × ha_St) ⊕ (Int32 × ha_St)) → Option (Int32 × ha_St)), (∀ (v2 : Int32) (S : ha_St) (H : Heap) (locs : List Loc) (ls : Array Slot), K (.inl (v2, S)) = some out → va_P D vwCl (ha_wl cs ad xo_kd xo_ln N S) H → va_D (ha_A ad N) (ha_wl cs ad xo_kd xo_ln N S) → va_S (ha_A ad N) s.heap H locs → lv_has ls 5 [(0, .ref (ad p0)), (1, .int p1), (2, .int v2)] → W p l e (headSpec wsX10_isText ({ frames := 1, cells := 0, slots := 0, locals := 20 } : Room)).room s m ([.ref (ad p0), .int p1] : List Value).toArray below meth c H locs 0 0 (MQ below (va_Qi (fun (r : Int32) (_ : Unit) => r = out.1) (fun _ => ha_H D cs ad xo_kd xo_ln N out.2) (ha_A ad N)) ([.ref (ad p0), .int p1] : List Value).toArray s 0 0 (ha_A ad N)) (F0 m 72 ls [])) → (∀ r, K (.inr r) = some out → r = out) → ∀ (n : Nat) (v2 : Int32) (v3 : Int32) (S : ha_St) (H : Heap) (locs : List Loc) (ls : Array Slot), (f_X10_isText_L22i p0 p1 n (v2, v3, S)).bind K = some out → va_P D vwCl (ha_wl cs ad xo_kd xo_ln N S) H → va_D (ha_A ad N) (ha_wl cs ad xo_kd xo_ln N S) → va_S (ha_A ad N) s.heap H locs → lv_has ls 5 [(0, .ref (ad p0)), (1, .int p1), (2, .int v2), (3, .int v3)] → W p l e (headSpec wsX10_isText ({ frames := 1, cells := 0, slots := 0, locals := 20 } : Room)).room s m ([.ref (ad p0), .int p1] : List Value).toArray below meth c H locs 0 0 (MQ below (va_Qi (fun (r : Int32) (_ : Unit) => r = out.1) (fun _ => ha_H D cs ad xo_kd xo_ln N out.2) (ha_A ad N)) ([.ref (ad p0), .int p1] : List Value).toArray s 0 0 (ha_A ad N)) (F0 m 22 ls []) := by
        intro K hk hke n
        induction n with
        | zero =>
          intro v2 v3 S H locs ls hf
          exact absurd (show (none : Option (Int32 × ha_St)) = some out from hf) (fun h => by cases h)
        | succ n ih =>
          intro v2 v3 S H locs ls hf  hP hD hS hl
          have J63 : ∀ (v3 : Int32) (v4 : Int32) (S : ha_St) (H : Heap) (locs : List Loc) (ls : Array Slot), (f_X10_isText_L22_J63 p0 p1 (f_X10_isText_L22i p0 p1 n) v3 v4 S).bind K = some out → va_P D vwCl (ha_wl cs ad xo_kd xo_ln N S) H → va_D (ha_A ad N) (ha_wl cs ad xo_kd xo_ln N S) → va_S (ha_A ad N) s.heap H locs → lv_has ls 5 [(0, .ref (ad p0)), (1, .int p1), (3, .int v3), (4, .int v4)] → W p l e (headSpec wsX10_isText ({ frames := 1, cells := 0, slots := 0, locals := 20 } : Room)).room s m ([.ref (ad p0), .int p1] : List Value).toArray below meth c H locs 0 0 (MQ below (va_Qi (fun (r : Int32) (_ : Unit) => r = out.1) (fun _ => ha_H D cs ad xo_kd xo_ln N out.2) (ha_A ad N)) ([.ref (ad p0), .int p1] : List Value).toArray s 0 0 (ha_A ad N)) (F0 m 63 ls []) := by
            intro v3 v4 S H locs ls hf  hP hD hS hl
            unfold f_X10_isText_L22_J63 at hf
            refine lv_iload hx hb dX10_isText_63 (lv_at hl 3 rfl) ?_
            refine lv_istore_n (lv' := [(2, .int v4), (0, .ref (ad p0)), (1, .int p1), (3, .int v3), (4, .int v4)]) hx hb dX10_isText_65 rfl hl (by decide) rfl (fun ls hl => ?_)
            obtain ⟨x4, ex4⟩ : ∃ y : Int32, y = (v3 : Int32) + 1 := ⟨_, rfl⟩
            have hf := ha_nms hf ex4
            refine lv_iinc (v := x4) (lv' := [(3, .int x4), (2, .int v4), (0, .ref (ad p0)), (1, .int p1), (4, .int v4)]) hx hb dX10_isText_66 hl (k := 3) rfl (by rw [ex4]; rfl) (by decide) rfl (fun ls hl => ?_)
            refine lv_goto (tgt := 22) hx hb dX10_isText_69 (by decide) ?_
            exact ih v4 x4 S H locs ls hf  hP hD hS (lv_sub hl [2, 3, 1, 0] rfl)
          have J61 : ∀  (S : ha_St) (H : Heap) (locs : List Loc) (ls : Array Slot), (f_X10_isText_L22_J61 p0 p1 (f_X10_isText_L22i p0 p1 n)  S).bind K = some out → va_P D vwCl (ha_wl cs ad xo_kd xo_ln N S) H → va_D (ha_A ad N) (ha_wl cs ad xo_kd xo_ln N S) → va_S (ha_A ad N) s.heap H locs → lv_has ls 5 [(0, .ref (ad p0)), (1, .int p1)] → W p l e (headSpec wsX10_isText ({ frames := 1, cells := 0, slots := 0, locals := 20 } : Room)).room s m ([.ref (ad p0), .int p1] : List Value).toArray below meth c H locs 0 0 (MQ below (va_Qi (fun (r : Int32) (_ : Unit) => r = out.1) (fun _ => ha_H D cs ad xo_kd xo_ln N out.2) (ha_A ad N)) ([.ref (ad p0), .int p1] : List Value).toArray s 0 0 (ha_A ad N)) (F0 m 61 ls []) := by
            intro  S H locs ls hf  hP hD hS hl
            unfold f_X10_isText_L22_J61 at hf
            refine lv_iconst (v := 0) hx hb dX10_isText_61 (by decide) ?_
            have he := hke _ hf
            exact ha_retz hx hb hr hlocks hP hD hS dX10_isText_62 (by decide) (ha_e1 he) (ha_e2 he)
          have hf : (f_X10_isText_L22 p0 p1 (f_X10_isText_L22i p0 p1 n) v2 v3 S).bind K = some out := hf
          unfold f_X10_isText_L22 at hf
          refine lv_iload_n hx hb dX10_isText_22 rfl (lv_at hl 3 rfl) ?_
          refine lv_aload_n hx hb dX10_isText_23 rfl (lv_at hl 0 rfl) ?_
          refine ha_geti hx hb hown hK hP q15 hN h0 dX10_isText_24 ?_
          refine lv_icmp_ge (tgt := 72) hx hb dX10_isText_27 (by decide) (fun c5 => ?_) (fun c5 => ?_)
          · have hf := ha_it hf c5
            exact hk v2 S H locs ls hf  hP hD hS (lv_sub hl [0, 1, 2] rfl)
          · have hf := ha_if hf c5
            refine lv_aload_n hx hb dX10_isText_30 rfl (lv_at hl 0 rfl) ?_
            obtain ⟨r6, wr6, hf⟩ := ha_bds hf
            obtain ⟨wr6, hr6⟩ := ha_rf_some wr6
            refine ha_getr hx hb hown hK hP q9 hN h0 wr6 dX10_isText_31 ?_
            refine lv_iload_n hx hb dX10_isText_34 rfl (lv_at hl 3 rfl) ?_
            obtain ⟨g7, hf⟩ := ha_gds hf
            refine ha_iald hx hb hK hP hN hr6 g7 dX10_isText_35 ?_
            obtain ⟨z8, wz8, hf⟩ := ha_bds hf
            refine ha_callNi (As := [.int ((ha_gA S r6 (v3 : Int32).toNatClampNeg))]) (rest := []) hZ ⟨hx, hb, hml, hown, hts⟩ hK hz hP hD hS (c_X11_isLetter   wz8) ⟨va_cnB 1 hts gX10_isText_X11_isLetter_n19 (rm := ({ frames := 0, cells := 0, slots := 0, locals := 0 } : Room)) (mc := 0) (ms := 0) rfl rfl rfl (xo_nl_X10_19 (hX s hz)) (hts (.initialized RX11) (by decide +kernel)) (by decide +kernel) ⟨Nat.le_of_ble_eq_true rfl, Nat.le_of_ble_eq_true rfl⟩, hts (.static yX11_isLetter) (by decide +kernel), trivial⟩ rfl hl.1 rfl (Nat.le_of_ble_eq_true rfl) dX10_isText_36 ⟨Nat.le_of_ble_eq_true rfl, Nat.le_of_ble_eq_true rfl⟩ (fun H locs hP hD hS => ?_)
            refine lv_istore (lv' := [(4, .int z8), (0, .ref (ad p0)), (1, .int p1), (2, .int v2), (3, .int v3)]) hx hb dX10_isText_39 hl (by decide) rfl (fun ls hl => ?_)
            refine lv_iload hx hb dX10_isText_41 (lv_at hl 0 rfl) ?_
            refine lv_if_ne (tgt := 63) hx hb dX10_isText_43 (by decide) (fun c9 => ?_) (fun c9 => ?_)
            · have hf := ha_it hf c9
              exact J63 v3 z8 S H locs ls hf  hP hD hS (lv_sub hl [1, 2, 4, 0] rfl)
            · have hf := ha_if hf (fun q => q c9)
              refine lv_iload_n hx hb dX10_isText_46 rfl (lv_at hl 3 rfl) ?_
              refine lv_if_eq (tgt := 61) hx hb dX10_isText_47 (by decide) (fun c10 => ?_) (fun c10 => ?_)
              · have hf := ha_it hf c10
                exact J61  S H locs ls hf  hP hD hS (lv_sub hl [1, 2] rfl)
              · have hf := ha_if hf c10
                refine lv_aload_n hx hb dX10_isText_50 rfl (lv_at hl 1 rfl) ?_
                obtain ⟨r11, wr11, hf⟩ := ha_bds hf
                obtain ⟨wr11, hr11⟩ := ha_rf_some wr11
                refine ha_getr hx hb hown hK hP q9 hN h0 wr11 dX10_isText_51 ?_
                refine lv_iload_n hx hb dX10_isText_54 rfl (lv_at hl 4 rfl) ?_
                obtain ⟨g12, hf⟩ := ha_gds hf
                refine ha_iald hx hb hK hP hN hr11 g12 dX10_isText_55 ?_
                refine lv_bipush (v := 32) hx hb dX10_isText_56 (by decide) ?_
                refine lv_icmp_eq (tgt := 63) hx hb dX10_isText_58 (by decide) (fun c13 => ?_) (fun c13 => ?_)
                · have hf := ha_it hf c13
                  exact J63 v3 z8 S H locs ls hf  hP hD hS (lv_sub hl [1, 2, 4, 0] rfl)
                · have hf := ha_if hf c13
                  exact J61  S H locs ls hf  hP hD hS (lv_sub hl [1, 2] rfl)
      refine key14 _ (fun v2 S H locs ls hf  hP hD hS hl => ?_) (fun r h => Option.some.inj h) ha_fu 0 0 S H locs ls (ha_as hf)  hP hD hS (lv_sub hl [2, 3, 1, 0] rfl)
      have hf : (f_X10_isText_J72 p0 p1 v2 S).bind some = some out := hf
      exact J72 v2 S H locs ls hf  hP hD hS (lv_sub hl [0, 1, 2] rfl)
    · have hf := ha_if hf c3
      exact J16  S H locs ls hf  hP hD hS (lv_sub hl [0, 1] rfl)

/-! RIGHT: the model's answer, the class's contract -/
def okR (a b r : Int32) : Prop := ¬ a < 1 ∧ ¬ 60 < a ∧ ¬ b < 1 ∧ ¬ 16 < b ∧ ¬ r < 2 ∧ r ≤ 2000
def rV (r : Int32) : Nat → Int64
  | 0 => 1000000000000000
  | k + 1 => rV r k * (r - 1).toInt64 / r.toInt64
theorem okR_n {a b r : Int32} (h : okR a b r) : a * b = nI (a * b).toInt.toNat ∧ (a * b).toInt.toNat ≤ 960 ∧ ¬ r.toInt64 = 0 := by
  obtain ⟨h1, h2, h3, h4, h5, h6⟩ := h
  have z2 : (2 : Int32).toInt = 2 := rfl
  rw [i_lt, z_1] at h1 h3
  rw [i_lt, z_60] at h2
  rw [i_lt, z_16] at h4
  rw [i_lt, z2] at h5
  obtain ⟨x, hx, rfl⟩ := n_of (x := a) (N := 60) (by omega) (by omega)
  obtain ⟨y, hy, rfl⟩ := n_of (x := b) (N := 16) (by omega) (by omega)
  have hxy : x * y ≤ 60 * 16 := Nat.mul_le_mul hx hy
  rw [nI_mul, n_tn (by omega)]
  refine ⟨rfl, by omega, fun g => ?_⟩
  have : (r.toInt64).toInt = (0 : Int64).toInt := by rw [g]
  rw [Int32.toInt_toInt64] at this
  have z : (0 : Int64).toInt = 0 := rfl
  omega
theorem right_l {a b r : Int32} (h : okR a b r) (S : ha_St) : f_X12_right_L57i 0 a b r ha_fu (1000000000000000, 0, S) = some (rV r (a * b).toInt.toNat, S) := by
  obtain ⟨h1, h2, h3⟩ := okR_n h
  generalize (a * b).toInt.toNat = n at h1 h2
  refine ok_eq ?_
  refine ok_for (fun i (_ : Unit) => (rV r i, nI i, S)) 0 n (fun _ _ => True) _ () trivial (by omega) (by omega) ?_ ?_
  · rintro f i - hi - ih
    show Ok (f_X12_right_L57 0 a b r f (rV r i) (nI i) S) _
    unfold f_X12_right_L57
    rw [h1]
    refine ok_ie (nI_ge hi (by omega)) (ok_gd h3 ?_)
    rw [pw_nm, pw_nm, nI_1]
    exact ih () trivial
  · rintro f - -
    show Ok (f_X12_right_L57 0 a b r f (rV r n) (nI n) S) _
    unfold f_X12_right_L57
    rw [h1]
    exact ok_it (nI_le (Nat.le_refl _) (by omega)) (ok_some rfl)
theorem right_m (a b r : Int32) (M : ha_St) : (okR a b r → f_X12_right 0 a b r M = some (rV r (a * b).toInt.toNat, ha_sI M 0 0 0)) ∧ (¬ okR a b r → f_X12_right 0 a b r M = some (0, ha_sI M 0 0 1)) := by
  have z2000 : (2000 : Int32).toInt = 2000 := rfl
  have j0 : okR a b r → f_X12_right_J37 0 a b r 0 0 M = some (rV r (a * b).toInt.toNat, ha_sI M 0 0 0) := fun h => by
    unfold f_X12_right_J37 f_X12_right_J83
    rw [pw_nm, pw_it (show ha_gI (ha_sI M 0 0 0) 0 0 ≤ 0 by rw [st_II, if_pos ⟨rfl, rfl⟩]; decide), right_l h, pw_bs]
  have j1 : f_X12_right_J36 0 a b r 0 M = some (0, ha_sI M 0 0 1) := by
    unfold f_X12_right_J36 f_X12_right_J37
    rw [pw_nm, pw_ie (show ¬ ha_gI (ha_sI M 0 0 1) 0 0 ≤ 0 by rw [st_II, if_pos ⟨rfl, rfl⟩]; decide)]
  unfold f_X12_right
  rw [isIn_eq, isIn_eq, isIn_eq, pw_bs, pw_bs, pw_bs]
  by_cases c1 : a < 1 ∨ 60 < a
  · rw [if_pos c1, pw_it rfl]
    exact ⟨fun h => absurd c1 (fun g => g.elim h.1 h.2.1), fun _ => j1⟩
  · rw [if_neg c1, pw_ie ne10]
    by_cases c2 : b < 1 ∨ 16 < b
    · rw [if_pos c2, pw_it rfl]
      exact ⟨fun h => absurd c2 (fun g => g.elim h.2.2.1 h.2.2.2.1), fun _ => j1⟩
    · rw [if_neg c2, pw_ie ne10]
      by_cases c3 : r < 2 ∨ 2000 < r
      · rw [if_pos c3, pw_it rfl]
        refine ⟨fun h => absurd c3 (fun g => g.elim h.2.2.2.2.1 (fun q => ?_)), fun _ => j1⟩
        have := h.2.2.2.2.2
        rw [i_lt, z2000] at q
        rw [i_le, z2000] at this
        omega
      · rw [if_neg c3, pw_ie ne10]
        have ok : okR a b r := by
          refine ⟨fun g => c1 (Or.inl g), fun g => c1 (Or.inr g), fun g => c2 (Or.inl g), fun g => c2 (Or.inr g), fun g => c3 (Or.inl g), ?_⟩
          have q : ¬ 2000 < r := fun g => c3 (Or.inr g)
          rw [i_lt, z2000] at q
          rw [i_le, z2000]; omega
        exact ⟨fun h => j0 h, fun h => absurd ok h⟩
/-- what the throw asks of the machine beside the tables -/
def rz (A : Nat → Prop) (sa : Nat) (U : State) : Prop := vk_R RX11 244 "signs, towers or odds not as told" sa U ∧ vx_Zq Bundle.tN "UNASSIGNED_STACK" Bundle.steD A U U.heap ∧ vx_Zq Bundle.tN "SUPPRESSED_SENTINEL" Bundle.listD A U U.heap ∧ va_Nw (.castable "java/util/NoSuchElementException" "java/util/NoSuchElementException") U ∧ va_Nw (.declares (Bundle.initS "java/lang/RuntimeException")) U ∧ va_Nw (.declares (Bundle.initS "java/lang/Exception")) U ∧ va_Nw (.declares (Bundle.initS Bundle.tN)) U
theorem vy_h2 : ∀ w ∈ vy_at.filter (fun w => !goodWord w), w ∈ [Cond.declares (Bundle.initS "java/lang/RuntimeException"), Cond.declares (Bundle.initS "java/lang/Exception"), Cond.declares (Bundle.initS Bundle.tN), Cond.castable "java/util/NoSuchElementException" "java/util/NoSuchElementException"] := by decide +kernel
theorem vy_hg : ∀ w ∈ Cond.classLink RX11 242 "java/util/NoSuchElementException" :: Cond.initialized "java/util/NoSuchElementException" :: vy_at, vx_ot w = true := by decide +kernel
theorem vy_x : decode prog_26_method_4_code 0 = .ok (.aload_n 0, 1) ∧ decode prog_26_method_4_code 1 = .ok (.aload_n 1, 1) ∧ decode prog_26_method_4_code 2 = .ok (.invokespecial 13, 3) ∧ decode prog_26_method_4_code 5 = .ok (.return_, 1) := ⟨by decide +kernel, by decide +kernel, by decide +kernel, by decide +kernel⟩
set_option maxHeartbeats 2000000 in
theorem c_X11_right {l : Launch} (hst : l.stackTraces = false) {a sa : Nat} {p1 p2 p3 : Int32} : vx_Met l yX11_right wsX11_right ({ frames := 6, cells := 1, slots := 6, locals := 82 } : Room) (va_Pc [.ref a, .int p1, .int p2, .int p3] (rz (fun _ => False) sa)) (va_Ql (fun (r : Int64) (_ : Unit) => okR p1 p2 p3 ∧ r = rV p3 (p1 * p2).toInt.toNat) (fun _ _ => True) (fun _ => False)) (vx_X (fun (_ : Unit) => ¬ okR p1 p2 p3) (fun E _ _ => E = "java/util/NoSuchElementException") (fun _ => False)) 1 6 (fun _ => False) := by
  refine vx_ofW (cc := cX11_right) (maxL := 7) (ret := some .long) (by decide +kernel) rfl ?_
  intro p e s m args below meth c s₁ B hml htab hv
  obtain ⟨rfl, hstr, hU, hN, hcast, hd1, hd2, hd3⟩ := hv
  have hx := B.exec
  have hb := B.bytes
  have hr := B.returns
  have hts := atoms_spec (ws := wsX11_right) B.pre
  have hown : s.vm.findClass RX11 = some m.cls := findClass_of_methodNamed B.named
  have hlocks := B.notSynchronized
  have hS : va_S (fun _ => False) s.heap s.heap [] := va_S.rf
  have hat : ∀ w ∈ vy_at, w.before ([.ref a, .int p1, .int p2, .int p3] : List Value).toArray s = true := vx_hat (fun w h => hts w (List.mem_cons_of_mem _ (List.mem_append_right _ h))) vy_h2 (vx_c (va_Nw.use rfl hd1) (vx_c (va_Nw.use rfl hd2) (vx_c (va_Nw.use rfl hd3) (vx_c (va_Nw.use rfl hcast) vx_n))))
  have k242 := hts (.classLink RX11 242 "java/util/NoSuchElementException") (List.mem_cons_of_mem _ (List.mem_append_left _ (List.mem_of_getElem? (i := 0) rfl)))
  have kini := hts (.initialized "java/util/NoSuchElementException") (List.mem_cons_of_mem _ (List.mem_append_left _ (List.mem_of_getElem? (i := 1) rfl)))
  have cn249 := hts (.constantLong RX11 249 (1000000000000000)) (List.mem_cons_of_mem _ (List.mem_append_left _ (List.mem_of_getElem? (i := 2) rfl)))
  have hl := lv_entry ([.ref a, .int p1, .int p2, .int p3]) (n := 7) (Nat.le_of_ble_eq_true rfl)
  rw [lg_entry_eq]
  generalize (lg_sl ([.ref a, .int p1, .int p2, .int p3]) ++ List.replicate (7 - (lg_sl ([.ref a, .int p1, .int p2, .int p3])).length) Slot.unset).toArray = ls at hl ⊢
  have hl : lv_has ls 7 [(0, .ref a), (1, .int p1), (2, .int p2), (3, .int p3)] := hl
  have thr : ¬ okR p1 p2 p3 → W p l e (headSpec wsX11_right ({ frames := 6, cells := 1, slots := 6, locals := 82 } : Room)).room s m ([.ref a, .int p1, .int p2, .int p3] : List Value).toArray below meth c s.heap [] 0 0 (vx_MQ below (va_Ql (fun (r : Int64) (_ : Unit) => okR p1 p2 p3 ∧ r = rV p3 (p1 * p2).toInt.toNat) (fun _ _ => True) (fun _ => False)) (vx_X (fun (_ : Unit) => ¬ okR p1 p2 p3) (fun E _ _ => E = "java/util/NoSuchElementException") (fun _ => False)) ([.ref a, .int p1, .int p2, .int p3] : List Value).toArray s 1 6 (fun _ => False)) (F0 m 34 ls []) := fun hn =>
    vy_throwS (up := "java/lang/RuntimeException") (r := ["java/lang/Exception"]) hx hb hst vy_x.1 vy_x.2.1 vy_x.2.2.1 vy_x.2.2.2 hown (by decide +kernel) (by decide +kernel) k242 kini hstr hat vy_hg hU hN hS (hl.1.trans hml.symm) dX11_right_34 dX11_right_37 dX11_right_38 dX11_right_40 dX11_right_43 (fun x hx => (htab x hx).elim) (by decide) (Nat.le_of_ble_eq_true rfl) (Nat.le_of_ble_eq_true rfl) (Nat.le_of_ble_eq_true rfl) hlocks (fun t _ h1 h2 => ⟨(), hn, rfl, h1, fun q hq _ => h2 q hq⟩) (fun z hz => nomatch hz) (by decide) (by decide)
  refine lv_iload_n hx hb dX11_right_0 rfl (lv_at hl 1 rfl) ?_
  refine lv_iconst (v := 1) hx hb dX11_right_1 (by decide) ?_
  refine lv_icmp_lt (tgt := 34) hx hb dX11_right_2 (by decide) (fun c1 => thr (fun g => g.1 c1)) (fun c1 => ?_)
  refine lv_iload_n hx hb dX11_right_5 rfl (lv_at hl 1 rfl) ?_
  refine lv_bipush (v := 60) hx hb dX11_right_6 (by decide) ?_
  refine lv_icmp_gt (tgt := 34) hx hb dX11_right_8 (by decide) (fun c2 => thr (fun g => g.2.1 c2)) (fun c2 => ?_)
  refine lv_iload_n hx hb dX11_right_11 rfl (lv_at hl 2 rfl) ?_
  refine lv_iconst (v := 1) hx hb dX11_right_12 (by decide) ?_
  refine lv_icmp_lt (tgt := 34) hx hb dX11_right_13 (by decide) (fun c3 => thr (fun g => g.2.2.1 c3)) (fun c3 => ?_)
  refine lv_iload_n hx hb dX11_right_16 rfl (lv_at hl 2 rfl) ?_
  refine lv_bipush (v := 16) hx hb dX11_right_17 (by decide) ?_
  refine lv_icmp_gt (tgt := 34) hx hb dX11_right_19 (by decide) (fun c4 => thr (fun g => g.2.2.2.1 c4)) (fun c4 => ?_)
  refine lv_iload_n hx hb dX11_right_22 rfl (lv_at hl 3 rfl) ?_
  refine lv_iconst (v := 2) hx hb dX11_right_23 (by decide) ?_
  refine lv_icmp_lt (tgt := 34) hx hb dX11_right_24 (by decide) (fun c5 => thr (fun g => g.2.2.2.2.1 c5)) (fun c5 => ?_)
  refine lv_iload_n hx hb dX11_right_27 rfl (lv_at hl 3 rfl) ?_
  refine lv_sipush (v := 2000) hx hb dX11_right_28 (by decide) ?_
  refine lv_icmp_le (tgt := 44) hx hb dX11_right_31 (by decide) (fun c6 => ?_) (fun c6 => thr (fun g => c6 g.2.2.2.2.2))
  have hok : okR p1 p2 p3 := ⟨c1, c2, c3, c4, c5, c6⟩
  obtain ⟨o1, o2, o3⟩ := okR_n hok
  refine lv_ldc2 hx hb hown cn249 dX11_right_44 ?_
  refine lv_lstore (lv' := [(4, .long 1000000000000000), (0, .ref a), (1, .int p1), (2, .int p2), (3, .int p3)]) hx hb dX11_right_47 hl (by decide) rfl (fun ls hl => ?_)
  refine lv_iconst (v := 0) hx hb dX11_right_49 (by decide) ?_
  refine lv_istore (lv' := [(6, .int (nI 0)), (4, .long 1000000000000000), (0, .ref a), (1, .int p1), (2, .int p2), (3, .int p3)]) hx hb dX11_right_50 hl (by decide) rfl (fun ls hl => ?_)
  generalize hn : (p1 * p2).toInt.toNat = n at o1 o2
  have K : ∀ (d j : Nat) (ls : Array Slot), j + d = n → lv_has ls 7 [(6, .int (nI j)), (4, .long (rV p3 j)), (0, .ref a), (1, .int p1), (2, .int p2), (3, .int p3)] → W p l e (headSpec wsX11_right ({ frames := 6, cells := 1, slots := 6, locals := 82 } : Room)).room s m ([.ref a, .int p1, .int p2, .int p3] : List Value).toArray below meth c s.heap [] 0 0 (vx_MQ below (va_Ql (fun (r : Int64) (_ : Unit) => okR p1 p2 p3 ∧ r = rV p3 n) (fun _ _ => True) (fun _ => False)) (vx_X (fun (_ : Unit) => ¬ okR p1 p2 p3) (fun E _ _ => E = "java/util/NoSuchElementException") (fun _ => False)) ([.ref a, .int p1, .int p2, .int p3] : List Value).toArray s 1 6 (fun _ => False)) (F0 m 52 ls []) := by
    intro d
    induction d with
    | zero =>
      intro j ls hj hl
      obtain rfl : j = n := by omega
      refine lv_iload hx hb dX11_right_52 (lv_at hl 0 rfl) ?_
      refine lv_iload_n hx hb dX11_right_54 rfl (lv_at hl 3 rfl) ?_
      refine lv_iload_n hx hb dX11_right_55 rfl (lv_at hl 4 rfl) ?_
      refine lv_imul hx hb dX11_right_56 ?_
      rw [o1]
      refine lv_icmp_ge (tgt := 78) hx hb dX11_right_57 (by decide) (fun _ => ?_) (fun c => absurd (nI_le (Nat.le_refl _) (by omega)) c)
      refine lv_lload hx hb dX11_right_78 (lv_at hl 1 rfl) ?_
      exact W.widen (k := 1) (n := 6) (by decide) (by decide) (vx_ret (W.lret hx hb hr (fun t ht hW => ⟨⟨rV p3 j, (), rfl, ⟨hok, rfl⟩, trivial⟩, hS.F ht⟩) hS.2.2 dX11_right_80 hlocks))
    | succ d ih =>
      intro j ls hj hl
      refine lv_iload hx hb dX11_right_52 (lv_at hl 0 rfl) ?_
      refine lv_iload_n hx hb dX11_right_54 rfl (lv_at hl 3 rfl) ?_
      refine lv_iload_n hx hb dX11_right_55 rfl (lv_at hl 4 rfl) ?_
      refine lv_imul hx hb dX11_right_56 ?_
      rw [o1]
      refine lv_icmp_ge (tgt := 78) hx hb dX11_right_57 (by decide) (fun c => absurd c (nI_ge (show j < n by omega) (by omega))) (fun _ => ?_)
      refine lv_lload hx hb dX11_right_60 (lv_at hl 1 rfl) ?_
      refine lv_iload_n hx hb dX11_right_62 rfl (lv_at hl 5 rfl) ?_
      refine lv_iconst (v := 1) hx hb dX11_right_63 (by decide) ?_
      refine lv_isub hx hb dX11_right_64 ?_
      refine lv_i2l (v := ((((p3 : Int32) - 1) : Int32).toInt64)) hx hb dX11_right_65 rfl ?_
      refine lv_lmul hx hb dX11_right_66 ?_
      refine lv_iload_n hx hb dX11_right_67 rfl (lv_at hl 5 rfl) ?_
      refine lv_i2l (v := ((p3 : Int32).toInt64)) hx hb dX11_right_68 rfl ?_
      refine lv_ldiv hx hb dX11_right_69 o3 ?_
      refine lv_lstore (lv' := [(4, .long (rV p3 (j + 1))), (6, .int (nI j)), (0, .ref a), (1, .int p1), (2, .int p2), (3, .int p3)]) hx hb dX11_right_70 hl (by decide) rfl (fun ls hl => ?_)
      refine lv_iinc (v := nI (j + 1)) (lv' := [(6, .int (nI (j + 1))), (4, .long (rV p3 (j + 1))), (0, .ref a), (1, .int p1), (2, .int p2), (3, .int p3)]) hx hb dX11_right_72 hl (k := 1) rfl (nI_1 j) (by decide) rfl (fun ls hl => ?_)
      refine lv_goto (tgt := 52) hx hb dX11_right_75 (by decide) ?_
      exact ih (j + 1) ls (by omega) hl
  exact K n 0 ls (by omega) hl

/-! THE LAW'S HELPER right: it answers 0 and leaves the number in out[0], or answers 1 where the class threw -/
theorem rz_kept {A : Nat → Prop} {sa : Nat} {s U : State} (h : rz A sa s) (hW : s.WarmedH U.vm) (hq : ∀ q : Nat, q < s.heap.size → ¬ A q → U.heap[q]? = s.heap[q]?) : rz A sa U :=
  ⟨vk_R.warm hW h.1, vx_Zq.moved hW.alike (h.2.1.kept hq), vx_Zq.moved hW.alike (h.2.2.1.kept hq), va_Nw.warmC hW h.2.2.2.1, va_Nw.warmD hW h.2.2.2.2.1, va_Nw.warmD hW h.2.2.2.2.2.1, va_Nw.warmD hW h.2.2.2.2.2.2⟩
theorem rz_narrow {A B : Nat → Prop} {sa : Nat} {U : State} (h : rz A sa U) (hAB : ∀ q, B q → A q) : rz B sa U := ⟨h.1, h.2.1.narrow hAB, h.2.2.1.narrow hAB, h.2.2.2⟩
theorem rz_calling {A : Nat → Prop} {sa : Nat} {U : State} (h : rz A sa U) (g : JFrame) (mk : MethodId) (a : Array Value) : rz A sa (U.calling g mk a) :=
  rz_kept (U := U.calling g mk a) h (State.WarmedH.refl U) (fun _ _ _ => rfl)
theorem one_D {o : Nat} {e : va_E} : va_D (fun q => q = o) [(o, e)] := by
  refine ⟨fun i j p q h1 h2 _ => ?_, fun k q hk => ?_⟩
  · cases i with
    | zero =>
      cases j with
      | zero => rfl
      | succ j => simp at h2
    | succ i => simp at h1
  · cases k with
    | zero =>
      obtain rfl : (o, e) = q := Option.some.inj hk
      rfl
    | succ k => simp at hk
def lrP (D : va_G) (cO : ClassId) (a o sa : Nat) (f : Nat → Int64) (U : State) : Prop := va_K D vwCl [(cO, .long)] U ∧ va_P D vwCl [(o, .inl (cO, 1, .inr (.inl f)))] U.heap ∧ (∃ fs : List Value, va_P D vwCl [(a, .inr (11, fs))] U.heap) ∧ rz (fun _ => False) sa U
set_option maxHeartbeats 2000000 in
theorem c_L_right {l : Launch} (hst : l.stackTraces = false) {D : va_G} {cO : ClassId} {a o sa : Nat} {p1 p2 p3 : Int32} {f : Nat → Int64} : Met l yL_right wsL_right ({ frames := 7, cells := 1, slots := 6, locals := 108 } : Room) (va_Pc [.ref a, .int p1, .int p2, .int p3, .ref o] (lrP D cO a o sa f))
    (va_Qi (fun (r : Int32) (f1 : Nat → Int64) => (r = 0 ∧ okR p1 p2 p3 ∧ f1 0 = rV p3 (p1 * p2).toInt.toNat) ∨ (r = 1 ∧ ¬ okR p1 p2 p3)) (fun f1 t => va_P D vwCl [(o, .inl (cO, 1, .inr (.inl f1)))] t.heap) (fun q => q = o)) 1 6 (fun q => q = o) := by
  refine va_MetW (cc := cL_right) (maxL := 6) (ret := some .int) (hh := [(0, 11, 14, 13)]) (by decide +kernel) rfl ?_
  intro p e s m args below meth c s₁ B hml hv
  obtain ⟨rfl, hK, hP, ⟨fs, hPx⟩, hz⟩ := hv
  have hx := B.exec
  have hb := B.bytes
  have hr := B.returns
  have hts := atoms_spec (ws := wsL_right) B.pre
  have hown : s.vm.findClass RL = some m.cls := findClass_of_methodNamed B.named
  have hlocks := B.notSynchronized
  have htab : c.exceptionTable.toList = tableOf [(0, 11, 14, 13)] := vx_table (x := yL_right) B (hts (Cond.codeWith yL_right cL_right 6 (some .int) [(0, 11, 14, 13)]) List.mem_cons_self)
  have k13 := hts (.classLink RL 13 "java/util/NoSuchElementException") (List.mem_cons_of_mem _ (List.mem_append_left _ (List.mem_of_getElem? (i := 0) rfl)))
  have hS : va_S (fun q => q = o) s.heap s.heap [] := va_S.rf
  have hlt : o < s.heap.size := (hP 0 _ rfl).lt
  have hl := lv_entry ([.ref a, .int p1, .int p2, .int p3, .ref o]) (n := 6) (Nat.le_of_ble_eq_true rfl)
  rw [lg_entry_eq]
  generalize (lg_sl ([.ref a, .int p1, .int p2, .int p3, .ref o]) ++ List.replicate (6 - (lg_sl ([.ref a, .int p1, .int p2, .int p3, .ref o])).length) Slot.unset).toArray = ls at hl ⊢
  have hl : lv_has ls 6 [(0, .ref a), (1, .int p1), (2, .int p2), (3, .int p3), (4, .ref o)] := hl
  have cw := cwV (R := (headSpec wsL_right ({ frames := 7, cells := 1, slots := 6, locals := 108 } : Room)).room) 3 hts gL_right_X11_right (rm := ({ frames := 6, cells := 1, slots := 6, locals := 82 } : Room)) (mc := 1) (ms := 6) rfl rfl rfl (by decide +kernel) ⟨Nat.le_of_ble_eq_true rfl, Nat.le_of_ble_eq_true rfl⟩
  have hbl : FrameBlind (va_Pc [.ref a, .int p1, .int p2, .int p3] (rz (fun _ => False) sa)) := fun a' U g mk h => ⟨h.1, rz_calling h.2 g mk a'⟩
  refine lv_aload hx hb dL_right_0 (lv_at hl 4 rfl) ?_
  refine lv_iconst (v := 0) hx hb dL_right_2 (by decide) ?_
  refine lv_aload_n hx hb dL_right_3 rfl (lv_at hl 0 rfl) ?_
  refine lv_iload_n hx hb dL_right_4 rfl (lv_at hl 1 rfl) ?_
  refine lv_iload_n hx hb dL_right_5 rfl (lv_at hl 2 rfl) ?_
  refine lv_iload_n hx hb dL_right_6 rfl (lv_at hl 3 rfl) ?_
  refine vx_calll (A0 := fun q => q = o) (vx_runV (cc := cL_right) (nL := 6) (As := [.int p1, .int p2, .int p3]) (rest := [.int 0, .ref o]) ⟨hx, hb, hml, hown, hts⟩ (c_X11_right hst (a := a) (sa := sa)) cw ⟨hbl, va_recv (q0 := 0) (ci := 11) hK hPx rfl rfl, fun U hU hW => ⟨rfl, rz_kept hz hW (fun q _ _ => by rw [hU])⟩⟩ rfl rfl hl.1 rfl (lv_room (Nat.le_of_ble_eq_true rfl)) dL_right_7 ⟨Nat.le_of_ble_eq_true rfl, Nat.le_of_ble_eq_true rfl⟩) hS (fun q _ h => h.elim) (fun q h => h.elim) (fun q _ h => h.elim) ?_ ?_
  · intro E ce q9 u t H1 locs1 ht hvm hpx hBX hz1 hk1 hS1 hce hcv hcl
    subst hBX
    have hP1 : va_P D vwCl [(o, .inl (cO, 1, .inr (.inl f)))] H1 := hP.kept (fun k q hk => by
      have : q.1 = o := one_D.2 k q hk
      rw [this]; exact hk1 o hlt (fun h => h))
    refine vx_catch (own := RL) (name := "java/util/NoSuchElementException") hown ⟨0, 11, 14, 13⟩ [] htab rfl (by decide) k13 (va_Nw.use rfl hz.2.2.2.1) hce hcv hcl ?_
    refine lv_astore (lv' := [(5, .ref q9), (0, .ref a), (1, .int p1), (2, .int p2), (3, .int p3), (4, .ref o)]) hx hb dL_right_14 hl (by decide) rfl (fun ls hl => ?_)
    refine lv_iconst (v := 1) hx hb dL_right_16 (by decide) ?_
    exact W.iret hx hb hr (fun t ht hW => ⟨⟨1, f, rfl, Or.inr ⟨rfl, hpx⟩, by show va_P D vwCl _ t.heap; rw [ht]; exact hP1⟩, hS1.F ht⟩) hS1.2.2 dL_right_17 hlocks
  · intro r u t H1 locs1 ht hvm hpost hB hz1 hk1 hS1
    obtain ⟨hok, rfl⟩ := hpost
    have hP1 : va_P D vwCl [(o, .inl (cO, 1, .inr (.inl f)))] H1 := hP.kept (fun k q hk => by
      have : q.1 = o := one_D.2 k q hk
      rw [this]; exact hk1 o hlt (fun h => h))
    refine va_last hx hb hK hP1 one_D hS1 0 0 rfl rfl (show ¬ ((0 : Int32) < 0 ∨ 1 ≤ (0 : Int32).toNatClampNeg) by decide) dL_right_10 (fun H2 locs2 hP2 hD2 hS2 => ?_)
    refine lv_goto (tgt := 18) hx hb dL_right_11 (by decide) ?_
    refine lv_iconst (v := 0) hx hb dL_right_18 (by decide) ?_
    exact W.iret hx hb hr (fun t ht hW => ⟨⟨0, _, rfl, Or.inl ⟨rfl, hok, if_pos rfl⟩, by show va_P D vwCl _ t.heap; rw [ht]; exact hP2⟩, hS2.F ht⟩) hS2.2.2 dL_right_19 hlocks
